import java.util.Arrays;
import java.util.NoSuchElementException;

/** Who is next at the bar: see README.md for its use and the project's document for its promises. */
public final class NextAtBar {
    public static final int NONE = -1;

    // What the document answers with -2: a thing that has not come about, or nobody.
    private static final int NEVER = -2;
    // More than any second, wait or sum can be.
    private static final int BEYOND_ALL = 1000000;

    private static final int TAPE = 1000;
    private static final int FEED = 20;
    private static final int DRINKS = 5;
    private static final int STAFF = 3;
    private static final int PEOPLE = 10;
    private static final int ORDER = 3;
    private static final int TELLINGS = 8;
    private static final int HANDS = 2;
    private static final int PLACES = 20;
    private static final int ACTS = 12;
    private static final int IMAGES = 3;
    private static final int FEW = 7;
    private static final int LIE = 30;
    private static final int LOOKS = 99;
    private static final int LAST_BELL = 900;
    private static final int LONGEST_PASS = 200;

    private static final int NO_HAND = -100;
    private static final int NO_COST = -1000;

    // TROUBLE
    private static final int FINE = 0;
    private static final int NO_SUCH = 1;
    private static final int NUMBER = 2;
    private static final int NO_ROOM = 3;
    private static final int FAULTY = 4;
    private static final int NOT_SO = 5;
    private static final int NOTHING = 6;

    // FAULTS
    private static final int FORM = 1;
    private static final int UNTOLD = 2;
    private static final int AGAIN = 3;
    private static final int BOUNDS = 4;
    private static final int MANY = 5;
    private static final int LACKS = 6;

    // MANNERS
    private static final int HONEST = 0;
    private static final int LIAR = 1;
    private static final int POLITE = 2;
    private static final int REGULAR = 3;
    private static final int MANNERS = 4;

    // RULES
    private static final int BY_ROW = 0;
    private static final int BY_NEAR = 1;
    private static final int BY_EYE = 2;
    private static final int BY_ASKED = 3;
    private static final int BY_REGULAR = 4;
    private static final int RULES = 5;

    // What a person does.
    private static final int AWAY = 0;
    private static final int WAITING = 1;
    private static final int BEGUN = 2;
    private static final int HAS_IT = 3;
    private static final int GAVE_UP = 4;
    private static final int LEFT = 5;

    // What sum() counts.
    private static final int SUM_SERVED = 0;
    private static final int SUM_GAVE_UP = 1;
    private static final int SUM_WAITING = 2;
    private static final int SUM_WAITS = 3;
    private static final int SUM_OUT_OF_TURN = 4;
    private static final int SUM_PAID = 5;
    private static final int SUMS = 6;

    /** A person: what is told of him, and how it goes with him. */
    private static final class Guest {
        int manner;
        int by;
        int comes;
        int place;
        int patience;
        int look;
        int shelf = NEVER;
        int says;
        int state = AWAY;
        int begun = NEVER;
        int has = NEVER;
        // The second in which his waiting ended.
        int until;
        int server = NEVER;
        int passed;
        int pushed;

        void take(Guest other) {
            manner = other.manner;
            by = other.by;
            comes = other.comes;
            place = other.place;
            patience = other.patience;
            look = other.look;
            shelf = other.shelf;
            says = other.says;
            state = other.state;
            begun = other.begun;
            has = other.has;
            until = other.until;
            server = other.server;
            passed = other.passed;
            pushed = other.pushed;
        }

        void behave(int newManner, int newBy) {
            manner = newManner;
            by = newBy;
            says = comes;
            if (manner == LIAR) {
                says = comes - by;
            } else if (manner == POLITE) {
                says = comes + by;
            }
        }

        boolean isServed() {
            return state == BEGUN || state == HAS_IT;
        }
    }

    /** One of the staff: what is told of him, and what he does. */
    private static final class Server {
        final int[] free = new int[HANDS];
        int rule;
        int place;
        int from;
        int to;
        int step;
        int hands;
        int last;

        void beginAfresh() {
            last = NONE;
            Arrays.fill(free, 0);
        }

        void take(Server other) {
            System.arraycopy(other.free, 0, free, 0, HANDS);
            rule = other.rule;
            place = other.place;
            from = other.from;
            to = other.to;
            step = other.step;
            hands = other.hands;
            last = other.last;
        }

        void stretch(int first, int end) {
            from = first;
            to = end;
        }

        int freeHand(int second) {
            for (int h = 0; h < HANDS && h < hands; h++) {
                if (free[h] <= second) {
                    return h;
                }
            }
            return NONE;
        }

        int busyHands(int second) {
            int busy = 0;
            for (int h = 0; h < HANDS && h < hands; h++) {
                if (free[h] > second) {
                    busy++;
                }
            }
            return busy;
        }

        int firstFree(int second) {
            int first = BEYOND_ALL;
            for (int h = 0; h < HANDS && h < hands; h++) {
                first = Math.min(first, Math.max(second, free[h]));
            }
            return first;
        }

        /** The less this is, the sooner the rule picks him. */
        int rank(Guest guest) {
            int away = guest.place - place;
            switch (rule) {
                case BY_ROW:
                    // Who stands to the left comes behind all to the right, hence the whole counter more.
                    return away >= 0 ? away : PLACES + guest.place;
                case BY_NEAR:
                    return away > 0 ? 2 * away + 1 : -2 * away;
                case BY_EYE:
                    return -guest.look;
                case BY_ASKED:
                    return guest.says;
                default:
                    return guest.manner == REGULAR ? 0 : 1;
            }
        }
    }

    /** What the text tells. */
    private static final class House {
        final int[] takes = new int[DRINKS];
        final int[] then = new int[DRINKS];
        final int[] price = new int[DRINKS];
        final int[][] glasses = new int[PEOPLE][DRINKS];
        final Guest[] guests = new Guest[PEOPLE];
        final Server[] servers = new Server[STAFF];
        final int[] teller = new int[TELLINGS];
        final int[] earlier = new int[TELLINGS];
        final int[] later = new int[TELLINGS];
        int places;
        int bell;
        int drinks;
        int staff;
        int people;
        int shelves;
        int tellings;

        House() {
            for (int p = 0; p < PEOPLE; p++) {
                guests[p] = new Guest();
            }
            for (int s = 0; s < STAFF; s++) {
                servers[s] = new Server();
            }
        }

        void empty() {
            places = 0;
            bell = 0;
            drinks = 0;
            staff = 0;
            people = 0;
            shelves = 0;
            tellings = 0;
            for (int p = 0; p < PEOPLE; p++) {
                Arrays.fill(glasses[p], 0);
                guests[p].shelf = NEVER;
            }
        }

        /** TIME of a person's order behind that of another one (NONE: behind no order). */
        int timeBehind(int last, int p) {
            int sum = 0;
            for (int d = 0; d < drinks; d++) {
                int wanted = glasses[p][d];
                if (wanted > 0) {
                    boolean atHand = last >= 0 && last < people && glasses[last][d] > 0;
                    sum += (atHand ? then[d] : takes[d]) + (wanted - 1) * then[d];
                }
            }
            return sum;
        }

        int priceOf(int p) {
            int sum = 0;
            for (int d = 0; d < drinks; d++) {
                sum += glasses[p][d] * price[d];
            }
            return sum;
        }

        boolean cameAhead(int p, int q) {
            int first = guests[p].comes;
            int second = guests[q].comes;
            return first < second || first == second && p < q;
        }
    }

    /** All that goes on in a house at a second, and how it goes on from there. */
    private static final class Scene {
        final Guest[] guests = new Guest[PEOPLE];
        // One more than the text can tell: A HAND MORE.
        final Server[] servers = new Server[STAFF + 1];
        final int[] row = new int[PEOPLE];
        House house;
        int people;
        int staff;
        int rowLength;
        int now;
        int bell;

        Scene(House none) {
            house = none;
            for (int p = 0; p < PEOPLE; p++) {
                guests[p] = new Guest();
            }
            for (int s = 0; s <= STAFF; s++) {
                servers[s] = new Server();
            }
        }

        void open(House told) {
            house = told;
            people = told.people;
            staff = told.staff;
            rowLength = 0;
            now = 0;
            bell = told.bell;
            for (int p = 0; p < people; p++) {
                guests[p].take(told.guests[p]);
            }
            for (int s = 0; s < staff; s++) {
                servers[s].take(told.servers[s]);
            }
        }

        void take(Scene other) {
            house = other.house;
            people = other.people;
            staff = other.staff;
            rowLength = other.rowLength;
            now = other.now;
            bell = other.bell;
            for (int p = 0; p < people; p++) {
                guests[p].take(other.guests[p]);
            }
            for (int s = 0; s < staff; s++) {
                servers[s].take(other.servers[s]);
            }
            System.arraycopy(other.row, 0, row, 0, PEOPLE);
        }

        void addHand() {
            if (staff <= STAFF) {
                Server more = servers[staff];
                more.beginAfresh();
                more.rule = BY_ASKED;
                more.place = house.places / 2;
                more.stretch(0, house.places - 1);
                more.step = 1;
                more.hands = 1;
                staff++;
            }
        }

        void runTo(int last) {
            // Between two stirs no second changes anything, so only those are gone through.
            for (int t = now; t <= last; t = Math.max(t + 1, nextStir(t))) {
                for (int p = 0; p < people; p++) {
                    comeOrGo(guests[p], t);
                }
                for (int s = 0; s < staff; s++) {
                    serve(s, t);
                }
            }
            now = Math.max(now, last + 1);
        }

        private int nextStir(int t) {
            int next = BEYOND_ALL;
            for (int p = 0; p < people; p++) {
                Guest guest = guests[p];
                if (guest.state == AWAY) {
                    next = sooner(next, guest.comes, t);
                } else if (guest.state == WAITING) {
                    next = sooner(next, guest.comes + guest.patience, t);
                    next = sooner(next, guest.shelf, t);
                }
            }
            for (int s = 0; s < staff; s++) {
                for (int h = 0; h < HANDS; h++) {
                    next = sooner(next, servers[s].free[h], t);
                }
            }
            return next;
        }

        private static int sooner(int next, int stir, int t) {
            return stir > t && stir < next ? stir : next;
        }

        private static void comeOrGo(Guest guest, int t) {
            if (guest.state == AWAY && guest.comes == t) {
                guest.state = WAITING;
            }
            if (guest.state != WAITING) {
                return;
            }
            if (guest.shelf != NEVER && guest.shelf <= t) {
                guest.state = HAS_IT;
                guest.has = t;
                guest.until = t;
            } else if (t - guest.comes >= guest.patience) {
                guest.state = GAVE_UP;
                guest.until = t;
            }
        }

        private void serve(int s, int t) {
            for (int turn = 0; turn < people; turn++) {
                int hand = servers[s].freeHand(t);
                int p = hand == NONE ? NEVER : choice(s);
                if (p < 0) {
                    return;
                }
                begin(s, hand, p, t);
            }
        }

        /** With whom one of the staff begins: NEVER, if nobody waits on his stretch. */
        int choice(int s) {
            Server server = servers[s];
            int best = NEVER;
            int bestRank = 0;
            for (int p = 0; p < people; p++) {
                Guest guest = guests[p];
                if (guest.state != WAITING || guest.place < server.from || guest.place > server.to) {
                    continue;
                }
                int rank = server.rank(guest);
                if (best < 0 || rank < bestRank || rank == bestRank && guest.comes < guests[best].comes) {
                    best = p;
                    bestRank = rank;
                }
            }
            return best;
        }

        private void begin(int s, int hand, int p, int t) {
            Server server = servers[s];
            Guest guest = guests[p];
            int steps = server.step * Math.abs(guest.place - server.place);
            guest.state = BEGUN;
            guest.begun = t;
            guest.until = t;
            guest.server = s;
            guest.has = t + steps + house.timeBehind(server.last, p);
            server.place = guest.place;
            server.last = p;
            server.free[hand] = guest.has;
            if (rowLength < PEOPLE) {
                row[rowLength] = p;
                rowLength++;
            }
            notePassed(p);
        }

        private void notePassed(int pusher) {
            for (int p = 0; p < people; p++) {
                if (guests[p].state == WAITING && house.cameAhead(p, pusher)) {
                    guests[p].passed |= 1 << pusher;
                    guests[pusher].pushed |= 1 << p;
                }
            }
        }

        int countOf(int state) {
            int count = 0;
            for (int p = 0; p < people; p++) {
                if (guests[p].state == state) {
                    count++;
                }
            }
            return count;
        }

        /** WAIT, once the evening is over; who left or never came waits nowhere. */
        int waitOf(int p) {
            Guest guest = guests[p];
            if (guest.state == AWAY || guest.state == LEFT) {
                return 0;
            }
            return (guest.state == WAITING ? bell : guest.until) - guest.comes;
        }

        /** WAIT of one who has it; without it no wait is good enough. */
        int servedWait(int p) {
            return guests[p].isServed() ? waitOf(p) : BEYOND_ALL;
        }

        int total(int what) {
            switch (what) {
                case SUM_SERVED:
                    return countOf(BEGUN) + countOf(HAS_IT);
                case SUM_GAVE_UP:
                    return countOf(GAVE_UP);
                case SUM_WAITING:
                    return countOf(WAITING);
                default:
                    return added(what);
            }
        }

        private int added(int what) {
            int sum = 0;
            for (int p = 0; p < people; p++) {
                if (what == SUM_WAITS) {
                    sum += waitOf(p);
                } else if (what == SUM_OUT_OF_TURN) {
                    sum += Integer.bitCount(guests[p].passed);
                } else if (what == SUM_PAID && guests[p].isServed()) {
                    sum += house.priceOf(p);
                }
            }
            return sum;
        }

        int waitsOfSet(int set) {
            int sum = 0;
            for (int p = 0; p < people; p++) {
                if ((set >> p & 1) == 1) {
                    sum += waitOf(p);
                }
            }
            return sum;
        }

        /** The i-th who waits, by numbers; NONE, if there is none such. */
        int waitingAsNumber(int i) {
            int left = i;
            for (int p = 0; p < people; p++) {
                if (guests[p].state == WAITING) {
                    if (left == 0) {
                        return p;
                    }
                    left--;
                }
            }
            return NONE;
        }
    }

    /** The text, parted into tokens. */
    private static final class Tokens {
        static final int END = 0;
        static final int NAME = 1;
        static final int LINE_WORD = 2;
        static final int WHOLE = 3;
        static final int SEMICOLON = 4;
        static final int COMMA = 5;
        static final int BROKEN = 6;

        private static final int LETTERS = 8;
        private static final int DIGITS = 3;

        final int[] kinds = new int[TAPE + 1];
        final int[] places = new int[TAPE + 1];
        // Of a word its letters, five bits each; of a whole its value.
        final long[] values = new long[TAPE + 1];
        int count;

        /** Parts the first bytes of a text; stops behind one that begins no token, as nothing behind it counts. */
        void part(byte[] text, int length) {
            count = 0;
            int at = 0;
            boolean broken = false;
            while (at < length && !broken) {
                if (text[at] == ' ') {
                    at++;
                } else {
                    int end = endOfToken(text, at, length);
                    add(text, at, end);
                    broken = kinds[count - 1] == BROKEN;
                    at = end;
                }
            }
            kinds[count] = broken ? BROKEN : END;
            places[count] = length;
            values[count] = 0;
        }

        private static boolean isLetter(int sign) {
            return sign >= 'a' && sign <= 'z';
        }

        private static boolean isDigit(int sign) {
            return sign >= '0' && sign <= '9';
        }

        private static int endOfToken(byte[] text, int at, int length) {
            int end = at + 1;
            if (isLetter(text[at])) {
                while (end < length && isLetter(text[end])) {
                    end++;
                }
            } else if (isDigit(text[at])) {
                while (end < length && isDigit(text[end])) {
                    end++;
                }
            }
            return end;
        }

        private void add(byte[] text, int at, int end) {
            places[count] = at;
            values[count] = 0;
            if (isLetter(text[at])) {
                addWord(text, at, end);
            } else if (isDigit(text[at])) {
                addWhole(text, at, end);
            } else if (text[at] == ';') {
                kinds[count] = SEMICOLON;
            } else {
                kinds[count] = text[at] == ',' ? COMMA : BROKEN;
            }
            count++;
        }

        private void addWord(byte[] text, int at, int end) {
            if (end - at > LETTERS) {
                kinds[count] = BROKEN;
                return;
            }
            long word = 0;
            for (int i = at; i < end; i++) {
                word = word << 5 | text[i] - 'a' + 1;
            }
            values[count] = word;
            kinds[count] = isLineWord(word) ? LINE_WORD : NAME;
        }

        private void addWhole(byte[] text, int at, int end) {
            if (end - at > DIGITS) {
                kinds[count] = BROKEN;
                return;
            }
            long whole = 0;
            for (int i = at; i < end; i++) {
                whole = whole * 10 + text[i] - '0';
            }
            values[count] = whole;
            kinds[count] = WHOLE;
        }

        private static boolean isLineWord(long word) {
            return word == letters("house") || word == letters("drink") || word == letters("staff")
                || word == letters("person") || word == letters("shelf") || word == letters("says");
        }

        static long letters(String text) {
            long word = 0;
            for (int i = 0; i < text.length(); i++) {
                word = word << 5 | text.charAt(i) - 'a' + 1;
            }
            return word;
        }
    }

    /** Reads tokens into a house; behind the first fault all that it does is nothing. */
    private static final class Reader {
        private static final int DRINK = 0;
        private static final int SERVER = 1;
        private static final int PERSON = 2;
        private static final int NAMES = DRINKS + STAFF + PEOPLE;

        private final Tokens tokens = new Tokens();
        private final long[] names = new long[NAMES];
        private final int[] sorts = new int[NAMES];
        private final int[] numbers = new int[NAMES];
        private House house;
        private int nameCount;
        private int current;
        private int kind;
        private long value;
        int fault;
        int place;

        Reader(House none) {
            house = none;
        }

        /** Whether the first bytes of a text tell a house; else fault and place say why not. */
        boolean reads(byte[] text, int length, House into) {
            tokens.part(text, length);
            house = into;
            house.empty();
            nameCount = 0;
            fault = 0;
            place = NONE;
            current = 0;
            kind = tokens.kinds[0];
            value = tokens.values[0];
            readLine();
            for (int left = tokens.count; left > 0 && fault == 0 && kind == Tokens.SEMICOLON; left--) {
                step();
                readLine();
            }
            readEnd();
            return fault == 0;
        }

        private void step() {
            if (fault == 0 && current < tokens.count && current < TAPE) {
                current++;
                kind = tokens.kinds[current];
                value = tokens.values[current];
            }
        }

        private void fail(int number) {
            if (fault == 0) {
                fault = number;
                place = tokens.places[current];
            }
        }

        private boolean stands(String word) {
            return (kind == Tokens.NAME || kind == Tokens.LINE_WORD) && value == Tokens.letters(word);
        }

        private void readEnd() {
            if (kind != Tokens.END) {
                fail(FORM);
            } else if (house.drinks == 0 || house.staff == 0 || house.people == 0) {
                fail(LACKS);
            }
        }

        private void readLine() {
            if (kind != Tokens.LINE_WORD) {
                fail(FORM);
            } else if (stands("house")) {
                readHouse();
            } else if (house.places == 0) {
                fail(LACKS);
            } else if (stands("drink")) {
                readDrink();
            } else if (stands("staff")) {
                readStaff();
            } else if (stands("person")) {
                readPerson();
            } else if (stands("shelf")) {
                readShelf();
            } else {
                readTelling();
            }
        }

        private void readHouse() {
            if (house.places != 0) {
                fail(AGAIN);
            }
            step();
            house.places = number("long", 1, PLACES);
            house.bell = number("bell", 1, 600);
        }

        private void readDrink() {
            beginLine(house.drinks, DRINKS);
            tellName(DRINK, house.drinks);
            int takes = number("takes", 1, 90);
            int then = number("then", 0, takes);
            int price = number("costs", 0, 99);
            if (fault == 0 && house.drinks < DRINKS) {
                house.takes[house.drinks] = takes;
                house.then[house.drinks] = then;
                house.price[house.drinks] = price;
                house.drinks++;
            }
        }

        private void readStaff() {
            beginLine(house.staff, STAFF);
            tellName(SERVER, house.staff);
            int rule = rule();
            int last = house.places - 1;
            int at = number("at", 0, last);
            int from = number("from", 0, last);
            int to = number("to", from, last);
            int steps = number("step", 0, 9);
            int hands = number("hands", 1, HANDS);
            if (fault == 0 && house.staff < STAFF) {
                Server server = house.servers[house.staff];
                server.beginAfresh();
                server.rule = rule;
                server.place = at;
                server.stretch(from, to);
                server.step = steps;
                server.hands = hands;
                house.staff++;
            }
        }

        private void readPerson() {
            beginLine(house.people, PEOPLE);
            tellName(PERSON, house.people);
            int manner = manner();
            int by = 0;
            if (manner == LIAR || manner == POLITE) {
                by = whole(1, 99);
            }
            int comes = number("comes", 0, house.bell);
            int at = number("at", 0, house.places - 1);
            int patience = number("patience", 0, 600);
            int look = number("look", 0, LOOKS);
            expect("wants");
            if (fault == 0 && house.people < PEOPLE) {
                Guest guest = house.guests[house.people];
                guest.comes = comes;
                guest.place = at;
                guest.patience = patience;
                guest.look = look;
                guest.behave(manner, by);
                readOrders(house.glasses[house.people]);
                house.people++;
            }
        }

        private void readOrders(int[] wanted) {
            readOrder(wanted, true);
            for (int drinks = 1; drinks <= ORDER && fault == 0 && kind == Tokens.COMMA; drinks++) {
                step();
                readOrder(wanted, drinks < ORDER);
            }
        }

        private void readOrder(int[] wanted, boolean room) {
            int drink = known(DRINK);
            if (drink < 0 || drink >= DRINKS) {
                return;
            }
            if (wanted[drink] > 0) {
                fail(AGAIN);
            } else if (!room) {
                fail(MANY);
            }
            step();
            wanted[drink] = whole(1, 9);
        }

        private void readShelf() {
            step();
            int p = known(PERSON);
            if (p < 0 || p >= PEOPLE) {
                return;
            }
            if (house.guests[p].shelf != NEVER) {
                fail(AGAIN);
            }
            step();
            house.guests[p].shelf = number("ready", 0, house.bell);
            house.shelves++;
        }

        private void readTelling() {
            beginLine(house.tellings, TELLINGS);
            int teller = known(PERSON);
            step();
            int earlier = known(PERSON);
            step();
            expect("before");
            int later = known(PERSON);
            if (later == earlier) {
                fail(AGAIN);
            }
            step();
            if (fault == 0 && house.tellings < TELLINGS) {
                house.teller[house.tellings] = teller;
                house.earlier[house.tellings] = earlier;
                house.later[house.tellings] = later;
                house.tellings++;
            }
        }

        private void beginLine(int told, int room) {
            if (told >= room) {
                fail(MANY);
            }
            step();
        }

        private void tellName(int sort, int number) {
            if (kind != Tokens.NAME) {
                fail(FORM);
            } else if (find() >= 0) {
                fail(AGAIN);
            } else if (fault == 0 && nameCount < NAMES) {
                names[nameCount] = value;
                sorts[nameCount] = sort;
                numbers[nameCount] = number;
                nameCount++;
            }
            step();
        }

        private int find() {
            for (int n = 0; n < nameCount; n++) {
                if (names[n] == value) {
                    return n;
                }
            }
            return NONE;
        }

        /** The number of the one named at the current token, which must be of a sort; NONE with a fault. */
        private int known(int sort) {
            int name = find();
            if (kind != Tokens.NAME) {
                fail(FORM);
            } else if (name < 0 || sorts[name] != sort) {
                fail(UNTOLD);
            }
            return fault == 0 && name >= 0 ? numbers[name] : NONE;
        }

        private void expect(String word) {
            if (!stands(word)) {
                fail(FORM);
            }
            step();
        }

        private int number(String word, int least, int most) {
            if (!stands(word)) {
                fail(FORM);
            }
            step();
            return whole(least, most);
        }

        private int whole(int least, int most) {
            int found = (int) value;
            if (kind != Tokens.WHOLE) {
                fail(FORM);
            } else if (found < least || found > most) {
                fail(BOUNDS);
            }
            step();
            return found;
        }

        private int rule() {
            int rule = NONE;
            if (stands("row")) {
                rule = BY_ROW;
            } else if (stands("near")) {
                rule = BY_NEAR;
            } else if (stands("eye")) {
                rule = BY_EYE;
            } else if (stands("asked")) {
                rule = BY_ASKED;
            } else if (stands("regular")) {
                rule = BY_REGULAR;
            } else {
                fail(FORM);
            }
            step();
            return rule;
        }

        private int manner() {
            int manner = NONE;
            if (stands("honest")) {
                manner = HONEST;
            } else if (stands("liar")) {
                manner = LIAR;
            } else if (stands("polite")) {
                manner = POLITE;
            } else if (stands("regular")) {
                manner = REGULAR;
            } else {
                fail(FORM);
            }
            step();
            return manner;
        }
    }

    /** The row of orders in which those who wait have theirs soonest, taken together. */
    private static final class Rows {
        private static final int BEHIND = 8;

        private final int[] who = new int[FEW];
        private final int[][] times = new int[BEHIND][FEW];
        // For each set of orders still to do and each one just done: the least sum of what all those still wait.
        private final int[] least = new int[(1 << FEW) * BEHIND];
        private int count;

        void settle(Scene scene, int s) {
            count = Math.min(FEW, scene.countOf(WAITING));
            for (int i = 0; i < count; i++) {
                who[i] = scene.waitingAsNumber(i);
            }
            for (int next = 0; next < count; next++) {
                for (int done = 0; done < count; done++) {
                    times[done][next] = scene.house.timeBehind(who[done], who[next]);
                }
                times[FEW][next] = scene.house.timeBehind(scene.servers[s].last, who[next]);
            }
            // Of the empty set the sums are 0 from the first, and stay so.
            for (int set = 1; set < 1 << count; set++) {
                for (int done = 0; done < BEHIND; done++) {
                    least[set * BEHIND + done] = sumWith(set, done, firstOf(set, done));
                }
            }
        }

        /** A time delays each order of the set, so it counts once for each. */
        private int sumWith(int set, int done, int next) {
            return times[done][next] * Integer.bitCount(set) + least[(set & ~(1 << next)) * BEHIND + next];
        }

        private int firstOf(int set, int done) {
            int best = 0;
            int bestSum = BEYOND_ALL;
            for (int next = 0; next < count; next++) {
                if ((set >> next & 1) == 1) {
                    int sum = sumWith(set, done, next);
                    if (sum < bestSum) {
                        bestSum = sum;
                        best = next;
                    }
                }
            }
            return best;
        }

        int leastSum() {
            return least[((1 << count) - 1) * BEHIND + FEW];
        }

        int inRow(int i) {
            int set = (1 << count) - 1;
            int done = FEW;
            for (int k = 0; k <= i && k < count; k++) {
                done = firstOf(set, done);
                set &= ~(1 << done);
            }
            return done < count ? who[done] : NONE;
        }
    }

    /** Who of the tellers must lie, and what follows from the others. */
    private static final class Tellings {
        private final int[] behind = new int[PEOPLE];

        int fewestLiars(House house) {
            int all = 0;
            for (int i = 0; i < house.tellings; i++) {
                all |= 1 << house.teller[i];
            }
            int best = all;
            for (int set = 0; set < all; set++) {
                boolean tellers = (set & ~all) == 0;
                if (tellers && Integer.bitCount(set) < Integer.bitCount(best) && agreeWithout(house, set)) {
                    best = set;
                }
            }
            return best;
        }

        boolean follows(House house, int p, int q) {
            agreeWithout(house, fewestLiars(house));
            return (behind[p] >> q & 1) == 1;
        }

        /** Gathers who comes behind whom by all other tellers; whether nobody comes behind himself. */
        private boolean agreeWithout(House house, int liars) {
            Arrays.fill(behind, 0);
            for (int i = 0; i < house.tellings; i++) {
                if ((liars >> house.teller[i] & 1) == 0) {
                    behind[house.earlier[i]] |= 1 << house.later[i];
                }
            }
            for (int between = 0; between < PEOPLE; between++) {
                for (int p = 0; p < PEOPLE; p++) {
                    if ((behind[p] >> between & 1) == 1) {
                        behind[p] |= behind[between];
                    }
                }
            }
            for (int p = 0; p < PEOPLE; p++) {
                if ((behind[p] >> p & 1) == 1) {
                    return false;
                }
            }
            return true;
        }
    }

    private final byte[] tape = new byte[TAPE];
    private int tapeLength;
    private House house = new House();
    // A text is read into this one, so that a faulty one leaves the house alone.
    private House spare = new House();
    private final Reader reader = new Reader(spare);
    private final Scene scene = new Scene(house);
    // Every other evening is played on this one.
    private final Scene stage = new Scene(house);
    private final Scene[] before = new Scene[ACTS];
    private int oldest;
    private int kept;
    private final Scene[] images = new Scene[IMAGES];
    private int imageCount;
    private final Rows rows = new Rows();
    private final Tellings tellings = new Tellings();
    private final int[][] waitsBySet = new int[1 << FEW][FEW];
    private int trouble;
    private int fault;
    private int faultPlace;

    public NextAtBar() {
        for (int i = 0; i < ACTS; i++) {
            before[i] = new Scene(house);
        }
        for (int i = 0; i < IMAGES; i++) {
            images[i] = new Scene(house);
        }
    }

    // ---- the house

    public int feed(int a, int b, int c, int d, int e) {
        if (tapeLength + FEED > TAPE) {
            return NONE;
        }
        putBytes(a);
        putBytes(b);
        putBytes(c);
        putBytes(d);
        putBytes(e);
        return tapeLength;
    }

    private void putBytes(int number) {
        for (int shift = 24; shift >= 0 && tapeLength < TAPE; shift -= 8) {
            tape[tapeLength] = (byte) (number >> shift);
            tapeLength++;
        }
    }

    public int house(int n) {
        if (!granted(n >= 0 && n <= tapeLength, NUMBER)) {
            return NONE;
        }
        tapeLength = 0;
        boolean good = reader.reads(tape, n, spare);
        fault = reader.fault;
        faultPlace = reader.place;
        if (!granted(good, FAULTY)) {
            return NONE;
        }
        House former = house;
        house = spare;
        spare = former;
        scene.open(house);
        kept = 0;
        imageCount = 0;
        return house.people;
    }

    public int fault() {
        return fault;
    }

    public int where() {
        return trouble == FAULTY ? faultPlace : NONE;
    }

    /** Whether a call may go on; it says so itself, or why not, as the latest trouble. */
    private boolean granted(boolean so, int otherwise) {
        trouble = so ? FINE : otherwise;
        return so;
    }

    // A house that was read tells at least one person, and without one there is no house.
    private boolean isOpen() {
        return house.people > 0;
    }

    private boolean isPerson(int p) {
        return p >= 0 && p < house.people;
    }

    private boolean areTwo(int p, int q) {
        return isPerson(p) && isPerson(q) && p != q;
    }

    private boolean isStaff(int s) {
        return s >= 0 && s < house.staff;
    }

    private boolean isPlace(int at) {
        return at >= 0 && at < house.places;
    }

    private boolean isSum(int what) {
        return isOpen() && what >= 0 && what < SUMS;
    }

    private boolean isWaiting(int p) {
        return scene.guests[p].state == WAITING;
    }

    private boolean isAway(int p) {
        return scene.guests[p].state == AWAY;
    }

    // ---- as it stands

    public int person(int p, int what) {
        if (!granted(isPerson(p) && what >= 0 && what <= 5, NO_SUCH)) {
            return NONE;
        }
        Guest guest = scene.guests[p];
        switch (what) {
            case 0:
                return guest.state == BEGUN && guest.has <= scene.now ? HAS_IT : guest.state;
            case 1:
                return guest.place;
            case 2:
                return guest.look;
            case 3:
                return guest.says;
            case 4:
                return guest.begun;
            default:
                return guest.has;
        }
    }

    public int staff(int s, int what) {
        if (!granted(isStaff(s) && what >= 0 && what <= 2, NO_SUCH)) {
            return NONE;
        }
        Server server = scene.servers[s];
        switch (what) {
            case 0:
                return server.place;
            case 1:
                return server.busyHands(scene.now);
            default:
                return server.firstFree(scene.now);
        }
    }

    public int elbows(int place) {
        if (!granted(isPlace(place), NO_SUCH)) {
            return NONE;
        }
        int count = 0;
        for (int p = 0; p < house.people; p++) {
            if (isWaiting(p) && scene.guests[p].place == place) {
                count++;
            }
        }
        return count;
    }

    public int waiting() {
        return granted(isOpen(), NO_SUCH) ? scene.countOf(WAITING) : NONE;
    }

    public int next(int s) {
        return granted(isStaff(s), NO_SUCH) ? scene.choice(s) : NONE;
    }

    public int time(int s, int p) {
        if (!granted(isStaff(s) && isPerson(p), NO_SUCH)) {
            return NONE;
        }
        return house.timeBehind(scene.servers[s].last, p);
    }

    public int costs(int p) {
        return granted(isPerson(p), NO_SUCH) ? house.priceOf(p) : NONE;
    }

    // ---- an evening

    private Scene asNow() {
        stage.take(scene);
        return stage;
    }

    private Scene evening() {
        stage.take(scene);
        stage.runTo(stage.bell);
        return stage;
    }

    public int fate(int p) {
        if (!granted(isPerson(p), NO_SUCH)) {
            return NONE;
        }
        // Whoever is told of has come by the bell, so none is away here.
        switch (evening().guests[p].state) {
            case BEGUN:
                return 0;
            case HAS_IT:
                return 1;
            case GAVE_UP:
                return 2;
            case LEFT:
                return 4;
            default:
                return 3;
        }
    }

    public int waits(int p) {
        if (!granted(isPerson(p), NO_SUCH)) {
            return NONE;
        }
        return scene.guests[p].state == LEFT ? NEVER : evening().waitOf(p);
    }

    public int whom(int p) {
        return granted(isPerson(p), NO_SUCH) ? evening().guests[p].server : NONE;
    }

    public int has(int p) {
        return granted(isPerson(p), NO_SUCH) ? evening().guests[p].has : NONE;
    }

    public int passed(int p) {
        return granted(isPerson(p), NO_SUCH) ? evening().guests[p].passed : NONE;
    }

    public int pushed(int p) {
        return granted(isPerson(p), NO_SUCH) ? evening().guests[p].pushed : NONE;
    }

    public int sum(int what) {
        return granted(isSum(what), NO_SUCH) ? evening().total(what) : NONE;
    }

    public int served(int i) {
        Scene over = evening();
        if (!granted(i >= 0 && i < over.rowLength && i < PEOPLE, NO_SUCH)) {
            return NONE;
        }
        return over.row[i];
    }

    // ---- other evenings

    public int by(int rule, boolean roving, int what) {
        if (!granted(isSum(what) && rule >= 0 && rule < RULES, NO_SUCH)) {
            return NONE;
        }
        return totalBy(rule, roving, what);
    }

    private int totalBy(int rule, boolean roving, int what) {
        Scene changed = asNow();
        for (int s = 0; s < house.staff; s++) {
            changed.servers[s].rule = rule;
            if (roving) {
                changed.servers[s].stretch(0, house.places - 1);
            }
        }
        changed.runTo(changed.bell);
        return changed.total(what);
    }

    public int bestRule(boolean turn) {
        if (!granted(isOpen(), NO_SUCH)) {
            return NONE;
        }
        int best = 0;
        int least = BEYOND_ALL;
        for (int rule = 0; rule < RULES; rule++) {
            int bad = turn ? totalBy(rule, false, SUM_OUT_OF_TURN) : -totalBy(rule, false, SUM_SERVED);
            if (bad < least) {
                least = bad;
                best = rule;
            }
        }
        return best;
    }

    public int hand() {
        if (!granted(isOpen(), NO_SUCH)) {
            return NO_HAND;
        }
        int without = evening().total(SUM_SERVED);
        Scene changed = asNow();
        changed.addHand();
        changed.runTo(changed.bell);
        return changed.total(SUM_SERVED) - without;
    }

    public int beforehand(int p) {
        if (!mayStillChange(p) || !granted(scene.guests[p].shelf == NEVER, NOT_SO)) {
            return NO_COST;
        }
        int without = evening().total(SUM_WAITS);
        Scene changed = asNow();
        changed.guests[p].shelf = changed.guests[p].comes;
        changed.runTo(changed.bell);
        return without - changed.total(SUM_WAITS);
    }

    private boolean mayStillChange(int p) {
        return granted(isPerson(p), NO_SUCH) && granted(isAway(p), NOT_SO);
    }

    public int bestPlace(int p) {
        if (!mayStillChange(p)) {
            return NONE;
        }
        int best = NEVER;
        int least = BEYOND_ALL;
        for (int at = 0; at < house.places; at++) {
            Scene changed = asNow();
            changed.guests[p].place = at;
            changed.runTo(changed.bell);
            if (changed.servedWait(p) < least) {
                least = changed.servedWait(p);
                best = at;
            }
        }
        return best;
    }

    public int bestManner(int p) {
        if (!mayStillChange(p)) {
            return NONE;
        }
        int best = NEVER;
        int least = BEYOND_ALL;
        for (int manner = 0; manner < MANNERS; manner++) {
            Scene changed = asNow();
            changed.guests[p].behave(manner, LIE);
            changed.runTo(changed.bell);
            if (changed.servedWait(p) < least) {
                least = changed.servedWait(p);
                best = manner;
            }
        }
        return best;
    }

    public int cut() {
        return mayCut() ? bestCut() : NONE;
    }

    public int cutWaits() {
        return mayCut() ? waitsByCut(bestCut()) : NONE;
    }

    private boolean mayCut() {
        return granted(isOpen(), NO_SUCH) && granted(house.staff >= 2 && house.places >= 2, NOT_SO);
    }

    private int bestCut() {
        int best = 0;
        int least = BEYOND_ALL;
        for (int at = 0; at <= house.places - 2; at++) {
            int waits = waitsByCut(at);
            if (waits < least) {
                least = waits;
                best = at;
            }
        }
        return best;
    }

    private int waitsByCut(int at) {
        Scene changed = asNow();
        changed.servers[0].stretch(0, at);
        changed.servers[1].stretch(at + 1, house.places - 1);
        changed.runTo(changed.bell);
        return changed.total(SUM_WAITS);
    }

    public int leastLook(int p) {
        if (!mayStillChange(p)) {
            return NONE;
        }
        int best = NEVER;
        int least = BEYOND_ALL;
        for (int look = 0; look <= LOOKS; look++) {
            Scene changed = asNow();
            changed.guests[p].look = look;
            changed.runTo(changed.bell);
            if (changed.servedWait(p) < least) {
                least = changed.servedWait(p);
                best = look;
            }
        }
        return best;
    }

    public int letCosts(int p, int other) {
        if (!mayLet(p, other)) {
            return NO_COST;
        }
        int without = evening().waitOf(p);
        Scene changed = asNow();
        letFirst(changed, p, other);
        changed.runTo(changed.bell);
        return changed.waitOf(p) - without;
    }

    private boolean mayLet(int p, int first) {
        return granted(areTwo(p, first), NO_SUCH)
            && granted(isWaiting(p) && isWaiting(first), NOT_SO)
            && granted(scene.guests[p].says <= scene.guests[first].says, NOT_SO);
    }

    private static void letFirst(Scene where, int p, int first) {
        where.guests[p].says = where.guests[first].says + 1;
    }

    public int bell(int second, int what) {
        if (!granted(isSum(what), NO_SUCH) || !granted(second >= scene.now && second <= LAST_BELL, NUMBER)) {
            return NONE;
        }
        Scene changed = asNow();
        changed.bell = second;
        changed.runTo(changed.bell);
        return changed.total(what);
    }

    public int waitingAt(int second) {
        if (!granted(isOpen(), NO_SUCH) || !granted(second >= scene.now && second <= house.bell, NUMBER)) {
            return NONE;
        }
        Scene changed = asNow();
        changed.runTo(second);
        return changed.countOf(WAITING);
    }

    public int honesty(int set, boolean others) {
        if (!isSet(set)) {
            return NONE;
        }
        return eveningOfLiars(set).waitsOfSet(others ? ~set : set);
    }

    private boolean isSet(int set) {
        return granted(isOpen(), NO_SUCH) && granted(set >= 0 && set < 1 << house.people, NUMBER);
    }

    private Scene eveningOfLiars(int set) {
        stage.open(house);
        for (int p = 0; p < house.people; p++) {
            stage.guests[p].behave((set >> p & 1) == 1 ? LIAR : HONEST, LIE);
        }
        stage.runTo(stage.bell);
        return stage;
    }

    public int rest(int set) {
        if (!isSet(set)) {
            return NONE;
        }
        for (int p = 0; p < house.people; p++) {
            int wait = eveningOfLiars(set).waitOf(p);
            if (eveningOfLiars(set ^ 1 << p).waitOf(p) < wait) {
                return 0;
            }
        }
        return 1;
    }

    public int rests() {
        if (!granted(isOpen(), NO_SUCH) || !granted(house.people <= FEW, NO_ROOM)) {
            return NONE;
        }
        for (int set = 0; set < 1 << house.people; set++) {
            Scene over = eveningOfLiars(set);
            for (int p = 0; p < house.people; p++) {
                waitsBySet[set][p] = over.waitOf(p);
            }
        }
        int count = 0;
        for (int set = 0; set < 1 << house.people; set++) {
            if (nobodyGains(set)) {
                count++;
            }
        }
        return count;
    }

    private boolean nobodyGains(int set) {
        for (int p = 0; p < house.people; p++) {
            if (waitsBySet[set ^ 1 << p][p] < waitsBySet[set][p]) {
                return false;
            }
        }
        return true;
    }

    // ---- orders, tellings

    public int row(int s, int i) {
        int count = scene.countOf(WAITING);
        if (!granted(isStaff(s) && i >= 0 && i < count, NO_SUCH) || !granted(count <= FEW, NO_ROOM)) {
            return NONE;
        }
        rows.settle(scene, s);
        return rows.inRow(i);
    }

    public int rowSum(int s) {
        if (!granted(isStaff(s), NO_SUCH) || !granted(scene.countOf(WAITING) <= FEW, NO_ROOM)) {
            return NONE;
        }
        rows.settle(scene, s);
        return rows.leastSum();
    }

    public int liars() {
        return granted(isOpen(), NO_SUCH) ? tellings.fewestLiars(house) : NONE;
    }

    public int surely(int p, int q) {
        if (!granted(areTwo(p, q), NO_SUCH)) {
            return NONE;
        }
        return tellings.follows(house, p, q) ? 1 : 0;
    }

    public int so() {
        if (!granted(isOpen(), NO_SUCH)) {
            return NONE;
        }
        int count = 0;
        for (int i = 0; i < house.tellings; i++) {
            if (house.cameAhead(house.earlier[i], house.later[i])) {
                count++;
            }
        }
        return count;
    }

    // ---- acts

    /** Keeps the scene for undo(); of too many the oldest goes. */
    private void keep() {
        if (kept == ACTS) {
            oldest = (oldest + 1) % ACTS;
            kept--;
        }
        before[(oldest + kept) % ACTS].take(scene);
        kept++;
    }

    public int pass(int n) {
        if (!granted(isOpen(), NO_SUCH) || !granted(n >= 1 && n <= LONGEST_PASS, NUMBER)
            || !granted(scene.now + n - 1 <= house.bell, NO_ROOM)) {
            return NONE;
        }
        keep();
        scene.runTo(scene.now + n - 1);
        return scene.now;
    }

    public boolean moves(int p, int place) {
        if (!granted(isPerson(p) && isPlace(place), NO_SUCH)
            || !granted(isWaiting(p) && scene.guests[p].place != place, NOT_SO)) {
            return false;
        }
        keep();
        scene.guests[p].place = place;
        return true;
    }

    public boolean lets(int p, int other) {
        if (!mayLet(p, other)) {
            return false;
        }
        keep();
        letFirst(scene, p, other);
        return true;
    }

    public int calls(int p) {
        if (!isPersonWaiting(p)) {
            return NONE;
        }
        keep();
        Guest guest = scene.guests[p];
        guest.look = Math.min(LOOKS, guest.look + 5);
        return guest.look;
    }

    public boolean leaves(int p) {
        if (!isPersonWaiting(p)) {
            return false;
        }
        keep();
        scene.guests[p].state = LEFT;
        return true;
    }

    private boolean isPersonWaiting(int p) {
        return granted(isPerson(p), NO_SUCH) && granted(isWaiting(p), NOT_SO);
    }

    public boolean undo() {
        if (!granted(kept > 0, NOTHING)) {
            return false;
        }
        kept--;
        scene.take(before[(oldest + kept) % ACTS]);
        return true;
    }

    public int image() {
        if (!granted(isOpen(), NO_SUCH) || !granted(imageCount < IMAGES, NO_ROOM)) {
            return NONE;
        }
        images[imageCount].take(scene);
        imageCount++;
        return imageCount - 1;
    }

    public boolean back(int image) {
        if (!granted(image >= 0 && image < imageCount, NO_SUCH)) {
            return false;
        }
        scene.take(images[image]);
        kept = 0;
        return true;
    }

    // ---- what is told

    public int told(int p, int what) {
        if (!granted(isPerson(p) && what >= 0 && what <= 6, NO_SUCH)) {
            return NONE;
        }
        Guest guest = house.guests[p];
        switch (what) {
            case 0:
                return guest.manner;
            case 1:
                return guest.by;
            case 2:
                return guest.comes;
            case 3:
                return guest.place;
            case 4:
                return guest.patience;
            case 5:
                return guest.look;
            default:
                return guest.shelf;
        }
    }

    public int wants(int p, int drink) {
        if (!granted(isPerson(p) && drink >= 0 && drink < house.drinks, NO_SUCH)) {
            return NONE;
        }
        return house.glasses[p][drink];
    }

    public int led(int i) throws NoSuchElementException {
        int p = i < 0 ? NONE : scene.waitingAsNumber(i);
        if (p < 0) {
            throw new NoSuchElementException();
        }
        return p;
    }

    public int size(int what) {
        switch (what) {
            case 0:
                return house.places;
            case 1:
                return house.bell;
            case 2:
                return house.drinks;
            case 3:
                return house.staff;
            case 4:
                return house.people;
            case 5:
                return house.shelves;
            case 6:
                return house.tellings;
            case 7:
                return scene.now;
            case 8:
                return kept;
            case 9:
                return imageCount;
            case 10:
                return tapeLength;
            default:
                return NONE;
        }
    }

    public int trouble() {
        return trouble;
    }
}
