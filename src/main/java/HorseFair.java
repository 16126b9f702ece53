import java.util.NoSuchElementException;

/** A horse fair's book. What each call promises stands, by number, in the project's document. */
public final class HorseFair {
    public static final int NONE = -1;

    private static final int MOST_PEOPLE = 16;
    private static final int MOST_HORSES = 40;
    private static final int MOST_SALES = 80;
    private static final int MOST_HANDS = 400;
    private static final int FAULTS = 6;
    private static final int LANDS = 3;
    private static final int LAST_DAY = 999;
    private static final int MOST_WARRANTS = 63;
    private static final int MOST_PRICE = 100000;
    private static final int MOST_GIVEN = 1000000;
    private static final int MOST_PENCE_IN_ALL = 1000000000;

    private static final int TAPE_ROOM = 320;
    private static final int FEED_BYTES = 20;
    private static final int TEXT_ROOM = 300;

    // The numbers of a law lie in the order in which rule() asks for them.
    private static final int TOLL = 0;
    private static final int OPEN = 1;
    private static final int DAYS = 2;
    private static final int WARRANT = 8;
    private static final int LAW_NUMBERS = 14;
    private static final int CHEST = 14;

    private static final int CAME_FIRST = 0;
    private static final int CAME_BY_SALE = 1;
    private static final int CAME_BACK = 2;
    private static final int CAME_BY_THEFT = 3;
    private static final int CAME_BY_CLAIM = 4;

    private final Tape tape;
    private final LawReader reader;
    private final Lands lands;
    private final Money money;
    private final Horses horses;
    private final Hands hands;
    private final Sales sales;
    private int day;
    private int wrongKind;

    public HorseFair() {
        tape = new Tape();
        reader = new LawReader();
        lands = new Lands();
        money = new Money();
        horses = new Horses();
        hands = new Hands();
        sales = new Sales();
        day = 0;
        wrongKind = 0;
    }

    public int feed(int a, int b, int c, int d, int e) {
        if (tape.length > TAPE_ROOM - FEED_BYTES) {
            return NONE;
        }
        tape.append(a);
        tape.append(b);
        tape.append(c);
        tape.append(d);
        tape.append(e);
        return tape.length;
    }

    public boolean end(int n) {
        if (n < 0 || n > tape.length) {
            return false;
        }
        tape.length = n;
        return true;
    }

    public int law(int l) throws IndexOutOfBoundsException {
        if (!isLand(l)) {
            throw new IndexOutOfBoundsException("no such land");
        }
        reader.readAll(tape);
        tape.length = 0;
        wrongKind = reader.faultKind;
        if (wrongKind != 0) {
            return -1 - reader.faultPlace;
        }
        lands.adopt(l, reader.numbers);
        return reader.rules;
    }

    public int wrong() {
        return wrongKind;
    }

    public int rule(int l, int what) throws IndexOutOfBoundsException {
        if (!isLand(l)) {
            throw new IndexOutOfBoundsException("no such land");
        }
        if (what == CHEST) {
            return lands.chest[l];
        }
        if (what < 0 || what >= LAW_NUMBERS) {
            return NONE;
        }
        return lands.number(l, what);
    }

    public int person(int pence) {
        if (money.people >= MOST_PEOPLE || pence < 0 || pence > MOST_GIVEN || !money.mayCome(pence)) {
            return NONE;
        }
        return money.addPerson(pence);
    }

    public int coin(int p, int pence) {
        if (!money.hasPerson(p) || pence < 1 || pence > MOST_GIVEN || !money.mayCome(pence)) {
            return NONE;
        }
        money.bring(p, pence);
        money.settle();
        return money.pence[p];
    }

    public int horse(int p) {
        if (horses.size >= MOST_HORSES || !money.hasPerson(p)) {
            return NONE;
        }
        int h = horses.add(p);
        hands.add(h, p, day, CAME_FIRST);
        return h;
    }

    public int sell(int h, int buyer, int price, int warrants, int land) {
        int why = whyNoSale(h, buyer, price, warrants, land);
        if (why != 0) {
            return -1 - why;
        }
        int seller = horses.holder[h];
        boolean titled = horses.title[h] == seller;
        int k = sales.add(h, seller, buyer, titled);
        sales.setTerms(k, price, warrants, land, day);
        payPrice(k);
        lead(h, buyer, titled ? buyer : horses.title[h], CAME_BY_SALE);
        return k;
    }

    public boolean find(int h, int f, int since) {
        if (!horses.has(h) || !isFault(f) || since < 0 || since > day || horses.isFound(h, f)) {
            return false;
        }
        horses.foundOn[h][f] = day;
        horses.since[h][f] = since;
        return true;
    }

    public int back(int h) {
        return horses.has(h) ? bringBack(h) : NONE;
    }

    public int trace(int h) {
        if (!horses.has(h)) {
            return NONE;
        }
        int undone = 0;
        while (undone < MOST_SALES && bringBack(h) != NONE) {
            undone++;
        }
        return undone;
    }

    public boolean steal(int h, int thief) {
        if (!horses.has(h) || !money.hasPerson(thief) || horses.holder[h] == thief) {
            return false;
        }
        lead(h, thief, horses.title[h], CAME_BY_THEFT);
        return true;
    }

    public int claim(int h) {
        if (!horses.has(h) || !horses.isApart(h)) {
            return NONE;
        }
        int undone = 0;
        for (int k = sales.size - 1; k >= horses.apartFrom[h]; k--) {
            if (sales.stands(k, h)) {
                undo(k);
                undone++;
            }
        }
        lead(h, horses.title[h], horses.title[h], CAME_BY_CLAIM);
        return undone;
    }

    public int next() {
        if (day >= LAST_DAY) {
            return NONE;
        }
        day++;
        for (int h = 0; h < horses.size; h++) {
            openTitle(h);
        }
        return day;
    }

    public int about(int h, int what) throws NoSuchElementException {
        if (!horses.has(h)) {
            throw new NoSuchElementException("no such horse");
        }
        switch (what) {
            case 0: return horses.holder[h];
            case 1: return horses.title[h];
            case 2: return sales.latestStanding(h);
            case 3: return horses.foundBits(h);
            case 4: return hands.howMany(h);
            default: throw new NoSuchElementException("no such answer about a horse");
        }
    }

    public int fault(int h, int f, int what) throws NoSuchElementException {
        if (!horses.has(h) || !isFault(f)) {
            throw new NoSuchElementException("no such horse or fault");
        }
        switch (what) {
            case 0: return horses.foundOn[h][f];
            case 1: return horses.since[h][f];
            default: throw new NoSuchElementException("no such answer about a fault");
        }
    }

    public int sale(int k, int what) throws NoSuchElementException {
        if (k < 0 || k >= sales.size) {
            throw new NoSuchElementException("no such sale");
        }
        switch (what) {
            case 0: return sales.horseOf[k];
            case 1: return sales.seller[k];
            case 2: return sales.buyer[k];
            case 3: return sales.price[k];
            case 4: return sales.warrants[k];
            case 5: return sales.land[k];
            case 6: return sales.madeOn[k];
            case 7: return sales.undone[k] ? 1 : 0;
            default: throw new NoSuchElementException("no such answer about a sale");
        }
    }

    public int purse(int p, int what) throws NoSuchElementException {
        if (!money.hasPerson(p)) {
            throw new NoSuchElementException("no such person");
        }
        switch (what) {
            case 0: return money.pence[p];
            case 1: return money.sumLeft(money.debtor, p);
            case 2: return money.sumLeft(money.creditor, p);
            case 3: return horses.howOften(horses.holder, p);
            case 4: return horses.howOften(horses.title, p);
            default: throw new NoSuchElementException("no such answer about a person");
        }
    }

    public int debt(int k, int what) throws NoSuchElementException {
        if (k < 0 || k >= money.debts) {
            throw new NoSuchElementException("no such debt");
        }
        switch (what) {
            case 0: return money.debtor[k];
            case 1: return money.creditor[k];
            case 2: return money.atFirst[k];
            case 3: return money.left[k];
            default: throw new NoSuchElementException("no such answer about a debt");
        }
    }

    public int hand(int h, int i, int what) throws NoSuchElementException {
        int place = hands.placeOf(h, i);
        if (place == NONE) {
            throw new NoSuchElementException("no such hand");
        }
        switch (what) {
            case 0: return hands.holder[place];
            case 1: return hands.from[place];
            case 2: return hands.how[place];
            default: throw new NoSuchElementException("no such answer about a hand");
        }
    }

    public int count(int what) {
        switch (what) {
            case 0: return day;
            case 1: return money.people;
            case 2: return horses.size;
            case 3: return sales.size;
            case 4: return sales.howManyStand();
            case 5: return money.debts;
            case 6: return tape.length;
            case 7: return hands.size;
            default: return NONE;
        }
    }

    private static boolean isLand(int l) {
        return l >= 0 && l < LANDS;
    }

    private static boolean isFault(int f) {
        return f >= 0 && f < FAULTS;
    }

    private int whyNoSale(int h, int buyer, int price, int warrants, int land) {
        if (!horses.has(h) || !money.hasPerson(buyer) || horses.holder[h] == buyer) {
            return 1;
        }
        if (!isLand(land) || price < 0 || price > MOST_PRICE || warrants < 0 || warrants > MOST_WARRANTS) {
            return 2;
        }
        if (money.pence[buyer] < price) {
            return 3;
        }
        return sales.size >= MOST_SALES ? 4 : 0;
    }

    private void payPrice(int k) {
        int land = sales.land[k];
        int price = sales.price[k];
        int toll = price * lands.number(land, TOLL) / 1000;
        money.pence[sales.buyer[k]] -= price;
        money.pence[sales.seller[k]] += price - toll;
        lands.chest[land] += toll;
        money.settle();
    }

    private void undo(int k) {
        sales.undone[k] = true;
        money.due(sales.seller[k], sales.buyer[k], sales.price[k]);
        money.settle();
    }

    private void lead(int h, int holder, int title, int how) {
        horses.move(h, holder, title, sales.size);
        hands.add(h, holder, day, how);
    }

    private int bringBack(int h) {
        int k = sales.latestStanding(h);
        if (k == NONE || sales.buyer[k] != horses.holder[h] || !lawLetsBack(h, k)) {
            return NONE;
        }
        int seller = sales.seller[k];
        // A buyer who had the title already, when the sale did not give it, keeps it.
        boolean titleGoesBack = sales.titled[k] && horses.title[h] == sales.buyer[k];
        undo(k);
        lead(h, seller, titleGoesBack ? seller : horses.title[h], CAME_BACK);
        return k;
    }

    private boolean lawLetsBack(int h, int k) {
        int age = day - sales.madeOn[k];
        for (int f = 0; f < FAULTS; f++) {
            int kind = sales.hasWarrant(k, f) ? WARRANT : DAYS;
            boolean wasThere = horses.isFound(h, f) && horses.since[h][f] <= sales.madeOn[k];
            if (wasThere && age <= lands.number(sales.land[k], kind + f)) {
                return true;
            }
        }
        return false;
    }

    private void openTitle(int h) {
        int k = sales.latestStanding(h);
        if (!horses.isApart(h) || k == NONE || sales.buyer[k] != horses.holder[h]) {
            return;
        }
        int open = lands.number(sales.land[k], OPEN);
        if (open >= 1 && day - sales.madeOn[k] >= open) {
            horses.move(h, horses.holder[h], horses.holder[h], sales.size);
            sales.titled[k] = true;
        }
    }

    /** The bytes that feed() brings, till law() takes them. */
    private static final class Tape {
        private final byte[] bytes = new byte[TAPE_ROOM];
        int length = 0;

        void append(int number) {
            for (int shift = 24; shift >= 0 && length < TAPE_ROOM; shift -= 8) {
                bytes[length] = (byte) (number >> shift);
                length++;
            }
        }

        int at(int place) {
            return place >= 0 && place < length ? bytes[place] & 255 : NONE;
        }
    }

    /** Reads a law's text; it is kept apart from the lands, so that a text with a fault changes none. */
    private static final class LawReader {
        private static final int NO_TOKEN = 0;
        private static final int WORD = 1;
        private static final int NUMBER = 2;
        private static final int SEMICOLON = 3;
        // What comes next, beside WORD, NUMBER and SEMICOLON.
        private static final int FAULT = 4;

        private static final int CANNOT_COME = 1;
        private static final int NOT_A_FAULT = 2;
        private static final int TOLD_TWICE = 3;

        private static final int MOST_DIGITS = 3;

        final int[] numbers = new int[LAW_NUMBERS];
        private final boolean[] told = new boolean[LAW_NUMBERS];
        int rules = 0;
        int faultKind = 0;
        int faultPlace = 0;
        private int awaited = WORD;
        private int slot = 0;
        private int start = 0;
        private int past = 0;

        void readAll(Tape tape) {
            clear();
            int readable = Math.min(tape.length, TEXT_ROOM);
            skipBlanks(tape);
            for (int tokens = 0; tokens < TEXT_ROOM && start < readable && faultKind == 0; tokens++) {
                faultKind = takeToken(tape, tokenKind(tape));
                faultPlace = start;
                start = past;
                skipBlanks(tape);
            }
            if (faultKind == 0 && (tape.length > TEXT_ROOM || awaited != WORD)) {
                faultKind = CANNOT_COME;
                faultPlace = readable;
            }
        }

        private void clear() {
            for (int i = 0; i < LAW_NUMBERS; i++) {
                numbers[i] = 0;
                told[i] = false;
            }
            rules = 0;
            faultKind = 0;
            faultPlace = 0;
            awaited = WORD;
            slot = 0;
            start = 0;
            past = 0;
        }

        private void skipBlanks(Tape tape) {
            while (start < tape.length && (tape.at(start) == 32 || tape.at(start) == 10)) {
                start++;
            }
        }

        /** Finds where the token at start is past, at least one byte behind it. */
        private int tokenKind(Tape tape) {
            int letters = 0;
            int digits = 0;
            past = start;
            while (past < tape.length && (isLetter(tape.at(past)) || isDigit(tape.at(past)))) {
                if (isLetter(tape.at(past))) {
                    letters++;
                } else {
                    digits++;
                }
                past++;
            }
            if (past == start) {
                past = start + 1;
                return tape.at(start) == ';' ? SEMICOLON : NO_TOKEN;
            }
            if (digits == 0) {
                return WORD;
            }
            return letters == 0 && digits <= MOST_DIGITS ? NUMBER : NO_TOKEN;
        }

        private int takeToken(Tape tape, int kind) {
            switch (awaited) {
                case WORD: return kind == WORD ? takeWord(slotOfWord(tape)) : CANNOT_COME;
                case FAULT: return kind == NUMBER ? takeFault(numberValue(tape)) : CANNOT_COME;
                case NUMBER: return kind == NUMBER ? takeNumber(numberValue(tape)) : CANNOT_COME;
                default: return kind == SEMICOLON ? takeSemicolon() : CANNOT_COME;
            }
        }

        private int takeWord(int firstSlot) {
            if (firstSlot == NONE) {
                return CANNOT_COME;
            }
            slot = firstSlot;
            if (firstSlot == DAYS || firstSlot == WARRANT) {
                awaited = FAULT;
                return 0;
            }
            return tellOnce();
        }

        private int takeFault(int fault) {
            if (!isFault(fault)) {
                return NOT_A_FAULT;
            }
            slot += fault;
            return tellOnce();
        }

        private int tellOnce() {
            if (told[slot]) {
                return TOLD_TWICE;
            }
            told[slot] = true;
            awaited = NUMBER;
            return 0;
        }

        private int takeNumber(int number) {
            numbers[slot] = number;
            awaited = SEMICOLON;
            return 0;
        }

        private int takeSemicolon() {
            rules++;
            awaited = WORD;
            return 0;
        }

        private int slotOfWord(Tape tape) {
            if (spells(tape, "toll")) {
                return TOLL;
            }
            if (spells(tape, "open")) {
                return OPEN;
            }
            if (spells(tape, "days")) {
                return DAYS;
            }
            return spells(tape, "warrant") ? WARRANT : NONE;
        }

        private boolean spells(Tape tape, String word) {
            if (past - start != word.length()) {
                return false;
            }
            for (int i = 0; i < word.length(); i++) {
                if (tape.at(start + i) != word.charAt(i)) {
                    return false;
                }
            }
            return true;
        }

        private int numberValue(Tape tape) {
            int value = 0;
            for (int place = start; place < past; place++) {
                value = value * 10 + tape.at(place) - '0';
            }
            return value;
        }

        private static boolean isLetter(int sign) {
            return sign >= 'a' && sign <= 'z';
        }

        private static boolean isDigit(int sign) {
            return sign >= '0' && sign <= '9';
        }
    }

    /** The laws and chests of the lands. */
    private static final class Lands {
        private final int[][] law = new int[LANDS][LAW_NUMBERS];
        final int[] chest = new int[LANDS];

        int number(int land, int which) {
            return law[land][which];
        }

        void adopt(int land, int[] numbers) {
            for (int i = 0; i < LAW_NUMBERS && i < numbers.length; i++) {
                law[land][i] = numbers[i];
            }
        }
    }

    /** What people have and owe. */
    private static final class Money {
        // Each payment takes a penny at least off debts that come to this much at most.
        private static final int MOST_PAYMENTS = MOST_SALES * MOST_PRICE;
        // Far more payments than most calls need, and than a round among all people takes.
        private static final int WATCH_SPAN = 2 * MOST_PEOPLE;

        final int[] pence = new int[MOST_PEOPLE];
        int people = 0;
        private int cameInAll = 0;
        // A sale is undone once, so there is no more than one debt of each.
        final int[] debtor = new int[MOST_SALES];
        final int[] creditor = new int[MOST_SALES];
        final int[] atFirst = new int[MOST_SALES];
        final int[] left = new int[MOST_SALES];
        int debts = 0;
        // All debts ahead of it are paid, and are not looked at again.
        private int oldestOpen = 0;
        private final int[] penceSeen = new int[MOST_PEOPLE];
        private final int[] leftSeen = new int[MOST_SALES];

        boolean hasPerson(int p) {
            return p >= 0 && p < people;
        }

        boolean mayCome(int amount) {
            return cameInAll <= MOST_PENCE_IN_ALL - amount;
        }

        int addPerson(int amount) {
            int p = people;
            people++;
            bring(p, amount);
            return p;
        }

        void bring(int p, int amount) {
            pence[p] += amount;
            cameInAll += amount;
        }

        void due(int from, int to, int amount) {
            int paid = Math.min(amount, pence[from]);
            pence[from] -= paid;
            pence[to] += paid;
            if (paid < amount && debts < MOST_SALES) {
                debtor[debts] = from;
                creditor[debts] = to;
                atFirst[debts] = amount - paid;
                left[debts] = amount - paid;
                debts++;
            }
        }

        void settle() {
            int payments = 0;
            while (payments < MOST_PAYMENTS && payOldest()) {
                payments++;
                if (payments > WATCH_SPAN && isRound()) {
                    skipRounds();
                }
                if (payments % WATCH_SPAN == 0) {
                    see();
                }
            }
        }

        private void see() {
            for (int p = 0; p < people; p++) {
                penceSeen[p] = pence[p];
            }
            for (int k = 0; k < debts; k++) {
                leftSeen[k] = left[k];
            }
        }

        private boolean isRound() {
            for (int p = 0; p < people; p++) {
                if (pence[p] != penceSeen[p]) {
                    return false;
                }
            }
            return true;
        }

        /**
         * A penny may go round among those who owe one another millions of times. Where all have what they had when it was
         * seen, the same payments come again as long as no debt falls short of them: those rounds are paid at once.
         */
        private void skipRounds() {
            int rounds = MOST_PAYMENTS;
            for (int k = 0; k < debts; k++) {
                int inRound = leftSeen[k] - left[k];
                if (inRound > 0) {
                    rounds = Math.min(rounds, left[k] / inRound);
                }
            }
            for (int k = 0; k < debts; k++) {
                left[k] -= rounds * (leftSeen[k] - left[k]);
            }
            see();
        }

        private boolean payOldest() {
            while (oldestOpen < debts && left[oldestOpen] == 0) {
                oldestOpen++;
            }
            for (int k = oldestOpen; k < debts; k++) {
                int paid = Math.min(left[k], pence[debtor[k]]);
                if (paid > 0) {
                    left[k] -= paid;
                    pence[debtor[k]] -= paid;
                    pence[creditor[k]] += paid;
                    return true;
                }
            }
            return false;
        }

        int sumLeft(int[] side, int p) {
            int sum = 0;
            for (int k = 0; k < debts && k < side.length; k++) {
                sum += side[k] == p ? left[k] : 0;
            }
            return sum;
        }
    }

    /** With whom the horses are, whose they are, and their faults. */
    private static final class Horses {
        final int[] holder = new int[MOST_HORSES];
        final int[] title = new int[MOST_HORSES];
        /** While holder and title are apart: the first sale that could be made since. */
        final int[] apartFrom = new int[MOST_HORSES];
        final int[][] foundOn = new int[MOST_HORSES][FAULTS];
        final int[][] since = new int[MOST_HORSES][FAULTS];
        int size = 0;

        boolean has(int h) {
            return h >= 0 && h < size;
        }

        int add(int p) {
            int h = size;
            size++;
            holder[h] = p;
            title[h] = p;
            for (int f = 0; f < FAULTS; f++) {
                foundOn[h][f] = NONE;
                since[h][f] = NONE;
            }
            return h;
        }

        boolean isApart(int h) {
            return holder[h] != title[h];
        }

        void move(int h, int newHolder, int newTitle, int salesSoFar) {
            if (!isApart(h)) {
                apartFrom[h] = salesSoFar;
            }
            holder[h] = newHolder;
            title[h] = newTitle;
        }

        boolean isFound(int h, int f) {
            return foundOn[h][f] != NONE;
        }

        int foundBits(int h) {
            int bits = 0;
            for (int f = 0; f < FAULTS; f++) {
                bits |= isFound(h, f) ? 1 << f : 0;
            }
            return bits;
        }

        int howOften(int[] whom, int p) {
            int many = 0;
            for (int h = 0; h < size && h < whom.length; h++) {
                many += whom[h] == p ? 1 : 0;
            }
            return many;
        }
    }

    /** The holders of all horses, in the order in which they came. */
    private static final class Hands {
        private final int[] horseOf = new int[MOST_HANDS];
        final int[] holder = new int[MOST_HANDS];
        final int[] from = new int[MOST_HANDS];
        final int[] how = new int[MOST_HANDS];
        int size = 0;

        void add(int h, int p, int day, int way) {
            if (size >= MOST_HANDS) {
                return;
            }
            horseOf[size] = h;
            holder[size] = p;
            from[size] = day;
            how[size] = way;
            size++;
        }

        int howMany(int h) {
            int many = 0;
            for (int place = 0; place < size; place++) {
                many += horseOf[place] == h ? 1 : 0;
            }
            return many;
        }

        int placeOf(int h, int i) {
            int ahead = 0;
            for (int place = 0; place < size; place++) {
                if (horseOf[place] == h) {
                    if (ahead == i) {
                        return place;
                    }
                    ahead++;
                }
            }
            return NONE;
        }
    }

    /** All sales, those that are undone too. */
    private static final class Sales {
        final int[] horseOf = new int[MOST_SALES];
        final int[] seller = new int[MOST_SALES];
        final int[] buyer = new int[MOST_SALES];
        final int[] price = new int[MOST_SALES];
        final int[] warrants = new int[MOST_SALES];
        final int[] land = new int[MOST_SALES];
        final int[] madeOn = new int[MOST_SALES];
        final boolean[] undone = new boolean[MOST_SALES];
        /** The buyer has the title by this sale, or by a law's open behind it. */
        final boolean[] titled = new boolean[MOST_SALES];
        int size = 0;

        int add(int h, int from, int to, boolean givesTitle) {
            int k = size;
            size++;
            horseOf[k] = h;
            seller[k] = from;
            buyer[k] = to;
            titled[k] = givesTitle;
            return k;
        }

        void setTerms(int k, int pence, int bits, int where, int when) {
            price[k] = pence;
            warrants[k] = bits;
            land[k] = where;
            madeOn[k] = when;
        }

        boolean hasWarrant(int k, int f) {
            return (warrants[k] >> f & 1) == 1;
        }

        boolean stands(int k, int h) {
            return horseOf[k] == h && !undone[k];
        }

        int latestStanding(int h) {
            for (int k = size - 1; k >= 0; k--) {
                if (stands(k, h)) {
                    return k;
                }
            }
            return NONE;
        }

        int howManyStand() {
            int many = 0;
            for (int k = 0; k < size; k++) {
                many += undone[k] ? 0 : 1;
            }
            return many;
        }
    }
}
