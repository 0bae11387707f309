import java.util.Arrays;
import java.util.NoSuchElementException;

/** A mail spool that stores equal parts of messages once; ../shared/DOC.md is its document. */
public final class MailSpool {
    public static final int NONE = -1;
    public static final int BOUNCED = -2;
    public static final int PARSE_ERROR = -4;

    private static final int INPUT_BYTES = 1200;
    // 120 lines of a number, a colon, a name, a slash, a day and a newline: 3 + 1 + 6 + 1 + 5 + 1 bytes at most
    private static final int OUTPUT_BYTES = 2040;

    private static final int MOST_CLASSES = 8;
    private static final int MOST_USERS = 10;
    private static final int MOST_GROUPS = 6;
    private static final int MOST_HOLDS = 6;
    private static final int MOST_QUOTA = 99999;
    private static final int LAST_HOLD_DAY = 9999;

    private static final int MOST_MESSAGES = 120;
    private static final int MOST_PLACES = 4;
    private static final int MOST_PARTS = 480;
    private static final int MOST_REFERENCES = 1200;
    private static final int PART_BYTES = 200;
    private static final int STORE_BYTES = 8000;

    private static final int MOST_EVENTS = 60;
    private static final int MOST_UNDOS = 6;
    private static final int LAST_DAY = 20000;
    private static final int MOST_DAYS_AT_ONCE = 1000;
    private static final int MOST_DAYS_AHEAD = 2000;
    // later than each day that a prediction can reach
    private static final int NEVER = 1000000000;

    private static final int NO_REFERENCE = -1;
    private static final int LIVE = 0;
    private static final int HIDDEN_DELETED = 1;
    private static final int HIDDEN_EXPIRED = 2;
    private static final int GONE = 3;

    private static final int EVENT_DELIVERED = 1;
    private static final int EVENT_BOUNCED = 2;
    private static final int EVENT_MOVED = 3;
    private static final int EVENT_GONE = 4;
    private static final int EVENT_HIDDEN = 5;
    private static final int EVENT_PART_DEAD = 6;
    private static final int EVENT_PART_KEPT = 7;
    private static final int EVENT_PART_REMOVED = 8;
    private static final int EVENT_ROUND = 9;
    private static final int EVENT_DAY = 10;

    // A word is held as a number to the base 27, a = 1 to z = 26, so that words are compared without texts.
    private static final long NO_WORD = 0;
    private static final long LONG_WORD = -1;
    private static final long SEVEN_LETTERS = 387420489L;
    private static final long TEN_LETTERS = 7625597484987L;

    private static final long HASH_START = -3750763034362895579L;
    private static final long HASH_FACTOR = 1099511628211L;

    private static final Keyword[] KEYWORDS = Keyword.values();

    private final Bytes input;
    private final Bytes output;
    private final Content content;
    private int parseCode;
    private int parsePosition;
    private final Spool now;
    private final Spool later;
    private final Spool[] past;
    private int firstPast;
    private int pastSize;
    private final int[] partReaders;

    public MailSpool() {
        Rules none = new Rules();
        input = new Bytes(INPUT_BYTES);
        output = new Bytes(OUTPUT_BYTES);
        content = new Content(input);
        parsePosition = NONE;
        now = new Spool(none);
        later = new Spool(none);
        past = new Spool[MOST_UNDOS];
        for (int i = 0; i < past.length; i++) {
            past[i] = new Spool(none);
        }
        partReaders = new int[MOST_PARTS];
    }

    // ---- the input buffer and the text

    public int append(int a, int b, int c, int d, int e) throws IllegalStateException {
        if (input.size + 20 > INPUT_BYTES) {
            throw new IllegalStateException("the input buffer is full");
        }
        input.addFour(a);
        input.addFour(b);
        input.addFour(c);
        input.addFour(d);
        input.addFour(e);
        return input.size;
    }

    public void truncate(int length) throws IllegalArgumentException {
        if (length < 0 || length > input.size) {
            throw new IllegalArgumentException("no such length");
        }
        input.cutTo(length);
    }

    public int load() {
        Parser parser = new Parser(input);
        boolean good = parser.parse();
        input.cutTo(0);
        parseCode = parser.errorCode;
        parsePosition = parser.errorPosition;
        if (!good) {
            return PARSE_ERROR;
        }
        remember();
        now.startWith(parser.rules);
        return now.rules.users.size;
    }

    public int errorCode() {
        return parseCode;
    }

    public int errorPosition() {
        return parsePosition;
    }

    // ---- what the text says

    public int find(int kind) throws IllegalArgumentException {
        needKind(kind);
        int number = now.rules.namesOf(kind).numberOf(input.wholeWord());
        input.cutTo(0);
        return number;
    }

    public int count(int kind) throws IllegalArgumentException {
        needKind(kind);
        return now.rules.namesOf(kind).size;
    }

    public int members(int group) throws NoSuchElementException {
        if (!now.rules.groups.has(group)) {
            throw new NoSuchElementException("no such group");
        }
        return at(now.rules.groupMembers, group);
    }

    public int retention(int retention, int what) throws NoSuchElementException, IllegalArgumentException {
        needClass(retention);
        needWhat(what, 2);
        if (what == 0) {
            return at(now.rules.classDays, retention);
        }
        return what == 1 ? at(now.rules.classKeep, retention) : at(now.rules.classNext, retention);
    }

    public int ladderDays(int retention) throws NoSuchElementException {
        needClass(retention);
        return now.rules.ladderFrom(retention);
    }

    public int day() {
        return now.day;
    }

    // ---- messages

    public int deliver(int sender, int recipients, int retention)
            throws NoSuchElementException, IllegalArgumentException, IllegalStateException {
        needUser(sender);
        if (retention != NONE) {
            needClass(retention);
        }
        if ((recipients & ~now.rules.allUsers()) != 0) {
            throw new NoSuchElementException("no such recipient");
        }
        if (recipients == 0 || !content.cut()) {
            throw new IllegalArgumentException("no recipients, or no content of a message");
        }
        if (now.messageCount >= MOST_MESSAGES || now.store.bytesWith(content) > STORE_BYTES) {
            throw new IllegalStateException("the spool is full");
        }
        remember();
        int answer = now.receive(content, sender, recipients, retention);
        input.cutTo(0);
        return answer;
    }

    public int bounced() {
        return now.bouncedUsers;
    }

    public int messageCount() {
        return now.messageCount;
    }

    public int message(int message, int what) throws NoSuchElementException, IllegalArgumentException {
        needMessage(message);
        needWhat(what, 4);
        Message found = now.messageAt(message);
        switch (what) {
            case 0:
                return found.sender;
            case 1:
                return found.day;
            case 2:
                return found.parts.length;
            case 3:
                return found.size;
            default:
                return now.keepsMessage(message) ? 1 : 0;
        }
    }

    public int partOf(int message, int index) throws NoSuchElementException {
        needMessage(message);
        Message found = now.messageAt(message);
        if (index < 0 || index >= found.parts.length) {
            throw new NoSuchElementException("no such place in the message");
        }
        return at(found.parts, index);
    }

    public int readers(int message) throws NoSuchElementException {
        needMessage(message);
        return now.usersIn(message, LIVE, LIVE);
    }

    public int hidden(int message) throws NoSuchElementException {
        needMessage(message);
        return now.usersIn(message, HIDDEN_DELETED, HIDDEN_EXPIRED);
    }

    // ---- references

    public int state(int message, int user) throws NoSuchElementException {
        needReference(message, user);
        return now.stateOf(message, user);
    }

    public int classOf(int message, int user) throws NoSuchElementException {
        needReference(message, user);
        return now.retentionOf(message, user);
    }

    public int enteredOn(int message, int user) throws NoSuchElementException {
        needReference(message, user);
        return at(now.entered, message * MOST_USERS + user);
    }

    public int expiresOn(int message, int user) throws NoSuchElementException {
        needReference(message, user);
        return now.expiryOf(message, user);
    }

    public boolean isKept(int message, int user) throws NoSuchElementException {
        needReference(message, user);
        return now.classKeeps(message, user);
    }

    public int holdsOn(int message, int user) throws NoSuchElementException {
        needReference(message, user);
        return now.holdsCovering(message, user);
    }

    // ---- parts

    public int storedParts() {
        return now.store.stored;
    }

    public int storedPart(int index) throws NoSuchElementException {
        if (index < 0 || index >= now.store.stored) {
            throw new NoSuchElementException("no such part");
        }
        return now.store.storedAt(index);
    }

    public int part(int part, int what) throws NoSuchElementException, IllegalArgumentException {
        needPart(part);
        needWhat(what, 3);
        switch (what) {
            case 0:
                return now.store.bytesOf(part).size;
            case 1:
                return at(now.store.keepers, part);
            case 2:
                return at(now.store.deadSince, part);
            default:
                return at(now.store.firstMessage, part);
        }
    }

    public int partByte(int part, int offset) throws NoSuchElementException, IndexOutOfBoundsException {
        needPart(part);
        Bytes bytes = now.store.bytesOf(part);
        if (offset < 0 || offset >= bytes.size) {
            throw new IndexOutOfBoundsException("no such offset");
        }
        return bytes.byteAt(offset);
    }

    public long digest(int part) throws NoSuchElementException {
        needPart(part);
        return now.store.bytesOf(part).hash();
    }

    public int storedBytes() {
        return now.store.byteSum(false);
    }

    public int deadBytes() {
        return now.store.byteSum(true);
    }

    public int logicalBytes() {
        int sum = 0;
        for (int user = 0; user < now.rules.users.size; user++) {
            sum += now.usageOf(user);
        }
        return sum;
    }

    public int mostShared() {
        return now.store.mostKept();
    }

    // ---- users

    public int usage(int user) throws NoSuchElementException {
        needUser(user);
        return now.usageOf(user);
    }

    public int quota(int user) throws NoSuchElementException {
        needUser(user);
        return at(now.quotas, user);
    }

    public double fairShare(int user) throws NoSuchElementException {
        needUser(user);
        now.gatherReaders(partReaders);
        double sum = 0;
        for (int part = 0; part < partReaders.length; part++) {
            int sharers = Integer.bitCount(partReaders[part]);
            if (sharers > 0 && hasBit(partReaders[part], user)) {
                sum += (double) now.store.bytesOf(part).size / (double) sharers;
            }
        }
        return sum;
    }

    public int inClass(int user, int retention) throws NoSuchElementException {
        needUser(user);
        needClass(retention);
        return now.liveInClass(user, retention, NONE);
    }

    public int matches(int user) throws NoSuchElementException, IllegalArgumentException {
        needUser(user);
        long word = input.wholeWord();
        if (word == NO_WORD) {
            throw new IllegalArgumentException("not a word");
        }
        input.cutTo(0);
        return now.liveWithWord(user, word);
    }

    public int commonBytes(int user, int other) throws NoSuchElementException {
        needUser(user);
        needUser(other);
        now.gatherReaders(partReaders);
        int sum = 0;
        for (int part = 0; part < partReaders.length; part++) {
            if (hasBit(partReaders[part], user) && hasBit(partReaders[part], other)) {
                sum += now.store.bytesOf(part).size;
            }
        }
        return sum;
    }

    // ---- what users and officers do

    public int file(int message, int user, int retention) throws NoSuchElementException, IllegalStateException {
        needClass(retention);
        needReference(message, user);
        needLive(message, user);
        int previous = now.retentionOf(message, user);
        if (previous != retention || at(now.entered, message * MOST_USERS + user) != now.day) {
            remember();
            now.enterClass(message, user, retention);
        }
        return previous;
    }

    public int delete(int message, int user) throws NoSuchElementException, IllegalStateException {
        needReference(message, user);
        needLive(message, user);
        remember();
        now.endReference(message, user, HIDDEN_DELETED);
        return now.stateOf(message, user);
    }

    public int recover(int message, int user) throws NoSuchElementException, IllegalStateException {
        needReference(message, user);
        if (!now.isHidden(message, user)) {
            throw new IllegalStateException("the reference is not hidden");
        }
        remember();
        int previous = now.stateOf(message, user);
        now.bringBack(message, user);
        return previous;
    }

    public boolean isActive(int hold) throws NoSuchElementException {
        needHold(hold);
        return hasBit(now.activeHolds, hold);
    }

    public int setHold(int hold, boolean active) throws NoSuchElementException {
        needHold(hold);
        if (hasBit(now.activeHolds, hold) == active) {
            return 0;
        }
        remember();
        if (active) {
            now.activeHolds |= 1 << hold;
            return 0;
        }
        return now.releaseHold(hold);
    }

    public int heldOnlyBy(int hold) throws NoSuchElementException {
        needHold(hold);
        return now.hiddenOnlyBy(hold);
    }

    public int setQuota(int user, int bytes) throws NoSuchElementException, IllegalArgumentException {
        needUser(user);
        if (bytes < 1 || bytes > MOST_QUOTA) {
            throw new IllegalArgumentException("no such quota");
        }
        int previous = at(now.quotas, user);
        if (previous != bytes) {
            remember();
            put(now.quotas, user, bytes);
        }
        return previous;
    }

    // ---- days

    public int advance(int days) throws IllegalArgumentException, IllegalStateException {
        if (days < 1 || days > MOST_DAYS_AT_ONCE) {
            throw new IllegalArgumentException("no such number of days");
        }
        if (now.day + days > LAST_DAY) {
            throw new IllegalStateException("the days are over");
        }
        remember();
        now.planLeaving();
        int removed = 0;
        for (int i = 0; i < days; i++) {
            removed += now.beginDay();
        }
        return removed;
    }

    public int nextRound() {
        int interval = now.rules.interval;
        return interval > 0 ? (now.day / interval + 1) * interval : NONE;
    }

    public int removedOn(int part) throws NoSuchElementException {
        needPart(part);
        lookAhead();
        for (int i = 0; i < MOST_DAYS_AHEAD && later.store.isStored(part) && !later.isAtRest(); i++) {
            later.beginDay();
        }
        return later.store.isStored(part) ? NONE : later.day;
    }

    public int emptyOn() {
        lookAhead();
        for (int i = 0; i < MOST_DAYS_AHEAD && later.store.stored > 0 && !later.isAtRest(); i++) {
            later.beginDay();
        }
        return later.store.stored > 0 ? NONE : later.day;
    }

    public int bytesAfter(int days) throws IllegalArgumentException {
        needDaysAhead(days);
        lookAhead();
        for (int i = 0; i < days && !later.isAtRest(); i++) {
            later.beginDay();
        }
        return later.store.byteSum(false);
    }

    public int goneAfter(int user, int days) throws NoSuchElementException, IllegalArgumentException {
        needUser(user);
        needDaysAhead(days);
        lookAhead();
        for (int i = 0; i < days && !later.isAtRest(); i++) {
            later.beginDay();
        }
        // days alone make no reference live, so what is missing was live before
        return now.liveOf(user) - later.liveOf(user);
    }

    // ---- journal and undo

    public int eventCount() {
        return now.journal.size;
    }

    public int event(int index, int what) throws NoSuchElementException, IllegalArgumentException {
        if (index < 0 || index >= now.journal.size) {
            throw new NoSuchElementException("no such event");
        }
        needWhat(what, 2);
        return now.journal.valueAt(index, what);
    }

    public int eventsOf(int kind) throws IllegalArgumentException {
        if (kind < EVENT_DELIVERED || kind > EVENT_DAY) {
            throw new IllegalArgumentException("no such kind");
        }
        int found = 0;
        for (int index = 0; index < now.journal.size; index++) {
            if (now.journal.valueAt(index, 1) == kind) {
                found++;
            }
        }
        return found;
    }

    public int undo() throws IllegalStateException {
        if (pastSize <= 0) {
            throw new IllegalStateException("nothing to undo");
        }
        pastSize--;
        Spool before = pastAt(pastSize);
        if (before != null) {
            now.copyFrom(before);
        }
        return pastSize;
    }

    public int undoCount() {
        return pastSize;
    }

    // ---- the output buffer

    public int writeMailbox(int user) throws NoSuchElementException {
        needUser(user);
        output.cutTo(0);
        for (int message = 0; message < now.messageCount; message++) {
            if (now.stateOf(message, user) == LIVE) {
                writeReference(message, user);
            }
        }
        return output.size;
    }

    public int outputByte(int index) throws IndexOutOfBoundsException {
        if (index < 0 || index >= output.size) {
            throw new IndexOutOfBoundsException("no such index");
        }
        return output.byteAt(index);
    }

    private void writeReference(int message, int user) {
        output.addNumber(message);
        output.add(':');
        output.addWord(now.rules.classes.nameAt(now.retentionOf(message, user)));
        output.add('/');
        output.addNumber(at(now.entered, message * MOST_USERS + user));
        output.add('\n');
    }

    // ---- undo and predictions

    private void remember() {
        if (pastSize >= MOST_UNDOS) {
            firstPast = (firstPast + 1) % MOST_UNDOS;
            pastSize--;
        }
        Spool copy = pastAt(pastSize);
        if (copy != null) {
            copy.copyFrom(now);
            pastSize++;
        }
    }

    private Spool pastAt(int index) {
        int slot = (firstPast + index) % MOST_UNDOS;
        return slot >= 0 && slot < past.length ? past[slot] : null;
    }

    private void lookAhead() {
        later.copyFrom(now);
        later.planLeaving();
    }

    // ---- what a call needs

    private static void needKind(int kind) {
        if (kind < 0 || kind > 3) {
            throw new IllegalArgumentException("no such kind");
        }
    }

    private static void needWhat(int what, int last) {
        if (what < 0 || what > last) {
            throw new IllegalArgumentException("no such value");
        }
    }

    private static void needDaysAhead(int days) {
        if (days < 0 || days > MOST_DAYS_AHEAD) {
            throw new IllegalArgumentException("no such number of days");
        }
    }

    private void needClass(int retention) {
        if (!now.rules.classes.has(retention)) {
            throw new NoSuchElementException("no such class");
        }
    }

    private void needUser(int user) {
        if (!now.rules.users.has(user)) {
            throw new NoSuchElementException("no such user");
        }
    }

    private void needHold(int hold) {
        if (!now.rules.holds.has(hold)) {
            throw new NoSuchElementException("no such hold");
        }
    }

    private void needMessage(int message) {
        if (message < 0 || message >= now.messageCount) {
            throw new NoSuchElementException("no such message");
        }
    }

    private void needReference(int message, int user) {
        if (now.stateOf(message, user) == NO_REFERENCE) {
            throw new NoSuchElementException("no such reference");
        }
    }

    private void needLive(int message, int user) {
        if (now.stateOf(message, user) != LIVE) {
            throw new IllegalStateException("the reference is not live");
        }
    }

    private void needPart(int part) {
        if (!now.store.isStored(part)) {
            throw new NoSuchElementException("no such part");
        }
    }

    // ---- numbers

    private static int at(int[] row, int index) {
        return index >= 0 && index < row.length ? row[index] : NONE;
    }

    private static void put(int[] row, int index, int value) {
        if (index >= 0 && index < row.length) {
            row[index] = value;
        }
    }

    private static void copyRow(int[] from, int[] to) {
        System.arraycopy(from, 0, to, 0, Math.min(from.length, to.length));
    }

    private static boolean hasBit(int set, int bit) {
        return (set >> bit & 1) != 0;
    }

    private static boolean isLetter(int value) {
        return value >= 'a' && value <= 'z';
    }

    private static boolean isDigit(int value) {
        return value >= '0' && value <= '9';
    }

    private static long withLetter(long word, int letter) {
        // a word of ten letters already: nothing in the document asks for a longer one
        if (word == LONG_WORD || word >= TEN_LETTERS) {
            return LONG_WORD;
        }
        return word * 27 + (letter - 'a' + 1);
    }

    /** A row of bytes that grows up to its capacity: a buffer, or a part. */
    private static final class Bytes {
        private final byte[] row;
        private int size;

        Bytes(int capacity) {
            row = new byte[Math.max(0, capacity)];
        }

        int byteAt(int index) {
            return index >= 0 && index < size && index < row.length ? row[index] & 255 : NONE;
        }

        void add(int value) {
            if (size >= 0 && size < row.length) {
                row[size] = (byte) value;
                size++;
            }
        }

        void addFour(int value) {
            add(value >>> 24);
            add(value >>> 16);
            add(value >>> 8);
            add(value);
        }

        void addNumber(int value) {
            boolean begun = false;
            for (int unit = 10000; unit >= 1; unit /= 10) {
                int digit = value / unit % 10;
                begun = begun || digit != 0 || unit == 1;
                if (begun) {
                    add('0' + digit);
                }
            }
        }

        void addWord(long word) {
            for (long unit = SEVEN_LETTERS / 27; unit >= 1; unit /= 27) {
                int letter = (int) (word / unit % 27);
                // no letter has the digit 0: it stands only before the first letter
                if (letter > 0) {
                    add('a' + letter - 1);
                }
            }
        }

        void addRange(Bytes other, int from, int to) {
            for (int i = from; i < to; i++) {
                add(other.byteAt(i));
            }
        }

        void cutTo(int length) {
            if (length >= 0 && length < size) {
                size = length;
            }
        }

        boolean isRange(Bytes other, int from, int to) {
            if (to - from != size) {
                return false;
            }
            for (int i = 0; i < size; i++) {
                if (byteAt(i) != other.byteAt(from + i)) {
                    return false;
                }
            }
            return true;
        }

        /** The word that is the whole content; NO_WORD if it is not one of 1 to 10 letters. */
        long wholeWord() {
            long word = NO_WORD;
            for (int i = 0; i < size; i++) {
                int value = byteAt(i);
                if (!isLetter(value)) {
                    return NO_WORD;
                }
                word = withLetter(word, value);
            }
            return word == LONG_WORD ? NO_WORD : word;
        }

        boolean hasWord(long wanted) {
            long word = NO_WORD;
            for (int i = 0; i < size; i++) {
                int value = byteAt(i);
                if (isLetter(value)) {
                    word = withLetter(word, value);
                } else if (word == wanted) {
                    return true;
                } else {
                    word = NO_WORD;
                }
            }
            return word == wanted;
        }

        long hash() {
            long sum = HASH_START;
            for (int i = 0; i < size; i++) {
                sum = (sum ^ byteAt(i)) * HASH_FACTOR;
            }
            return sum;
        }
    }

    /** The parts into which the input buffer falls as a message, each by its place in it. */
    private static final class Content {
        private final Bytes text;
        private final int[] starts;
        private final int[] ends;
        private int places;

        Content(Bytes text) {
            this.text = text;
            starts = new int[MOST_PLACES];
            ends = new int[MOST_PLACES];
        }

        /** Finds the parts; false if there are too many, or one has a size that no part may have. */
        boolean cut() {
            places = 0;
            int start = 0;
            for (int i = 0; i <= text.size; i++) {
                if (i == text.size || text.byteAt(i) == '|') {
                    if (places >= MOST_PLACES || i - start < 1 || i - start > PART_BYTES) {
                        return false;
                    }
                    put(starts, places, start);
                    put(ends, places, i);
                    places++;
                    start = i + 1;
                }
            }
            return true;
        }

        int sizeAt(int place) {
            return at(ends, place) - at(starts, place);
        }

        int sizeOfAll() {
            int sum = 0;
            for (int place = 0; place < places; place++) {
                sum += sizeAt(place);
            }
            return sum;
        }

        boolean isEqualTo(Bytes bytes, int place) {
            return bytes.isRange(text, at(starts, place), at(ends, place));
        }

        boolean isFirstOfItsKind(int place) {
            for (int earlier = 0; earlier < place; earlier++) {
                if (areEqual(earlier, place)) {
                    return false;
                }
            }
            return true;
        }

        private boolean areEqual(int one, int other) {
            if (sizeAt(one) != sizeAt(other)) {
                return false;
            }
            for (int i = 0; i < sizeAt(one); i++) {
                if (text.byteAt(at(starts, one) + i) != text.byteAt(at(starts, other) + i)) {
                    return false;
                }
            }
            return true;
        }

        Bytes copyOfPlace(int place) {
            Bytes copy = new Bytes(sizeAt(place));
            copy.addRange(text, at(starts, place), at(ends, place));
            return copy;
        }
    }

    /** The words that no name may be. */
    private enum Keyword {
        SPOOL("spool"), GRACE("grace"), ROUND("round"), CLASS("class"), DAYS("days"),
        FOREVER("forever"), KEEP("keep"), THEN("then"), USER("user"), QUOTA("quota"),
        GROUP("group"), HOLD("hold"), FROM("from"), TO("to"), WORD("word");

        private final long word;

        Keyword(String text) {
            long sum = NO_WORD;
            for (int i = 0; i < text.length(); i++) {
                sum = withLetter(sum, text.charAt(i));
            }
            word = sum;
        }
    }

    /** The names of the things of one kind; a name's place is the number of its thing. */
    private static final class Names {
        private final long[] words;
        private int size;

        Names(int capacity) {
            words = new long[Math.max(0, capacity)];
        }

        boolean isFull() {
            return size >= words.length;
        }

        boolean has(int number) {
            return number >= 0 && number < size;
        }

        int numberOf(long word) {
            for (int i = 0; i < size && i < words.length; i++) {
                if (words[i] == word) {
                    return i;
                }
            }
            return NONE;
        }

        long nameAt(int number) {
            return has(number) && number < words.length ? words[number] : NO_WORD;
        }

        int add(long word) {
            int number = size;
            if (number >= 0 && number < words.length) {
                words[number] = word;
                size++;
            }
            return number;
        }
    }

    /** What a text says; it never changes after it has been parsed, so all states share it. */
    private static final class Rules {
        private int grace;
        private int interval;
        private final Names classes;
        private final int[] classDays;
        private final int[] classKeep;
        private final int[] classNext;
        private final Names users;
        private final int[] userClass;
        private final int[] userQuota;
        private final Names groups;
        private final int[] groupMembers;
        private final Names holds;
        private final int[] holdUser;
        private final int[] holdFrom;
        private final int[] holdTo;
        private final long[] holdWord;

        Rules() {
            interval = 1;
            classes = new Names(MOST_CLASSES);
            classDays = new int[MOST_CLASSES];
            classKeep = new int[MOST_CLASSES];
            classNext = new int[MOST_CLASSES];
            users = new Names(MOST_USERS);
            userClass = new int[MOST_USERS];
            userQuota = new int[MOST_USERS];
            groups = new Names(MOST_GROUPS);
            groupMembers = new int[MOST_GROUPS];
            holds = new Names(MOST_HOLDS);
            holdUser = new int[MOST_HOLDS];
            holdFrom = new int[MOST_HOLDS];
            holdTo = new int[MOST_HOLDS];
            holdWord = new long[MOST_HOLDS];
        }

        Names namesOf(int kind) {
            switch (kind) {
                case 0:
                    return classes;
                case 1:
                    return users;
                case 2:
                    return groups;
                default:
                    return holds;
            }
        }

        void addClass(long name, int days, int keep, int next) {
            int number = classes.add(name);
            put(classDays, number, days);
            put(classKeep, number, keep);
            put(classNext, number, next);
        }

        void addUser(long name, int retention, int quota) {
            int number = users.add(name);
            put(userClass, number, retention);
            put(userQuota, number, quota);
        }

        void addGroup(long name, int memberSet) {
            put(groupMembers, groups.add(name), memberSet);
        }

        void addHold(long name, int user, int from, int to, long word) {
            int number = holds.add(name);
            put(holdUser, number, user);
            put(holdFrom, number, from);
            put(holdTo, number, to);
            if (number >= 0 && number < holdWord.length) {
                holdWord[number] = word;
            }
        }

        int allUsers() {
            return (1 << users.size) - 1;
        }

        int allHolds() {
            return (1 << holds.size) - 1;
        }

        long wordOfHold(int hold) {
            return hold >= 0 && hold < holdWord.length ? holdWord[hold] : NO_WORD;
        }

        int holdsOnUser(int user) {
            int set = 0;
            for (int hold = 0; hold < holds.size; hold++) {
                if (at(holdUser, hold) == user) {
                    set |= 1 << hold;
                }
            }
            return set;
        }

        int ladderFrom(int retention) {
            int sum = 0;
            int step = retention;
            for (int i = 0; i < MOST_CLASSES && step != NONE; i++) {
                int days = at(classDays, step);
                if (days == NONE) {
                    return NONE;
                }
                sum += days;
                step = at(classNext, step);
            }
            return sum;
        }
    }

    /** Reads a text token by token into new rules, up to the first error. */
    private static final class Parser {
        private static final int END = 0;
        private static final int WORD = 1;
        private static final int NUMBER = 2;
        private static final int SYMBOL = 3;
        // more than each range allows, and small enough to take another digit
        private static final int HUGE = 10000000;

        private final Bytes text;
        private final Rules rules;
        private int errorCode;
        private int errorPosition;
        private int position;
        private int start;
        private int kind;
        private long word;
        private Keyword keyword;
        private int value;

        Parser(Bytes text) {
            this.text = text;
            rules = new Rules();
            errorPosition = NONE;
        }

        boolean parse() {
            nextToken();
            boolean good = spoolStatement();
            // each statement takes bytes, so the text ends before the counter does
            for (int i = 0; i < text.size && good && kind != END; i++) {
                if (keyword == Keyword.CLASS) {
                    good = classStatement();
                } else if (keyword == Keyword.USER) {
                    good = userStatement();
                } else if (keyword == Keyword.GROUP) {
                    good = groupStatement();
                } else if (keyword == Keyword.HOLD) {
                    good = holdStatement();
                } else {
                    good = fail(1);
                }
            }
            return good;
        }

        private boolean spoolStatement() {
            if (!take(Keyword.SPOOL) || !take(Keyword.GRACE)) {
                return false;
            }
            rules.grace = takeNumber(0, 30);
            if (rules.grace == NONE || !take(Keyword.ROUND)) {
                return false;
            }
            rules.interval = takeNumber(1, 30);
            return rules.interval != NONE && takeSymbol(';');
        }

        private boolean classStatement() {
            if (rules.classes.isFull()) {
                return fail(4);
            }
            nextToken();
            long name = takeNewName(rules.classes, rules.classes);
            if (name == NO_WORD || !take(Keyword.DAYS)) {
                return false;
            }
            int days = NONE;
            if (keyword == Keyword.FOREVER) {
                nextToken();
            } else {
                days = takeNumber(1, 999);
                if (days == NONE) {
                    return false;
                }
            }
            int keep = 0;
            if (keyword == Keyword.KEEP) {
                nextToken();
                keep = takeNumber(1, 99);
                if (keep == NONE) {
                    return false;
                }
            }
            int next = NONE;
            if (keyword == Keyword.THEN) {
                nextToken();
                next = takeKnown(rules.classes);
                if (next == NONE) {
                    return false;
                }
            }
            if (!takeSymbol(';')) {
                return false;
            }
            rules.addClass(name, days, keep, next);
            return true;
        }

        private boolean userStatement() {
            if (rules.users.isFull() || rules.classes.size == 0) {
                return fail(4);
            }
            nextToken();
            long name = takeNewName(rules.users, rules.groups);
            if (name == NO_WORD || !take(Keyword.CLASS)) {
                return false;
            }
            int retention = takeKnown(rules.classes);
            if (retention == NONE || !take(Keyword.QUOTA)) {
                return false;
            }
            int quota = takeNumber(1, MOST_QUOTA);
            if (quota == NONE || !takeSymbol(';')) {
                return false;
            }
            rules.addUser(name, retention, quota);
            return true;
        }

        private boolean groupStatement() {
            if (rules.groups.isFull() || rules.users.size == 0) {
                return fail(4);
            }
            nextToken();
            long name = takeNewName(rules.users, rules.groups);
            if (name == NO_WORD) {
                return false;
            }
            int memberSet = takeMember();
            if (memberSet == 0) {
                return false;
            }
            for (int i = 0; i < text.size && isSymbol(','); i++) {
                nextToken();
                int more = takeMember();
                if (more == 0) {
                    return false;
                }
                memberSet |= more;
            }
            if (!takeSymbol(';')) {
                return false;
            }
            rules.addGroup(name, memberSet);
            return true;
        }

        private boolean holdStatement() {
            if (rules.holds.isFull() || rules.users.size == 0) {
                return fail(4);
            }
            nextToken();
            long name = takeNewName(rules.holds, rules.holds);
            if (name == NO_WORD || !take(Keyword.USER)) {
                return false;
            }
            int user = takeKnown(rules.users);
            if (user == NONE) {
                return false;
            }
            int from = 0;
            int to = NEVER;
            if (keyword == Keyword.FROM) {
                nextToken();
                from = takeNumber(0, LAST_HOLD_DAY);
                if (from == NONE || !take(Keyword.TO)) {
                    return false;
                }
                to = takeNumber(from, LAST_HOLD_DAY);
                if (to == NONE) {
                    return false;
                }
            }
            long wanted = NO_WORD;
            if (keyword == Keyword.WORD) {
                nextToken();
                wanted = takeWord();
                if (wanted == NO_WORD) {
                    return false;
                }
            }
            if (!takeSymbol(';')) {
                return false;
            }
            rules.addHold(name, user, from, to, wanted);
            return true;
        }

        private boolean fail(int code) {
            errorCode = code;
            errorPosition = start;
            return false;
        }

        private boolean take(Keyword wanted) {
            if (keyword != wanted) {
                return fail(1);
            }
            nextToken();
            return true;
        }

        private boolean isSymbol(int wanted) {
            return kind == SYMBOL && value == wanted;
        }

        private boolean takeSymbol(int wanted) {
            if (!isSymbol(wanted)) {
                return fail(1);
            }
            nextToken();
            return true;
        }

        /** The number; NONE behind an error. */
        private int takeNumber(int least, int most) {
            if (kind != NUMBER || value < least || value > most) {
                fail(kind == NUMBER ? 2 : 1);
                return NONE;
            }
            int number = value;
            nextToken();
            return number;
        }

        private boolean isName() {
            return kind == WORD && keyword == null && word > NO_WORD && word < SEVEN_LETTERS;
        }

        /** A name that neither table has; NO_WORD behind an error. */
        private long takeNewName(Names used, Names alsoUsed) {
            if (!isName()) {
                fail(1);
                return NO_WORD;
            }
            if (used.numberOf(word) != NONE || alsoUsed.numberOf(word) != NONE) {
                fail(3);
                return NO_WORD;
            }
            long name = word;
            nextToken();
            return name;
        }

        /** The number of a thing by its name; NONE behind an error. */
        private int takeKnown(Names known) {
            int number = isName() ? known.numberOf(word) : NONE;
            if (number == NONE) {
                fail(isName() ? 3 : 1);
                return NONE;
            }
            nextToken();
            return number;
        }

        /** The users that a member stands for; none behind an error. */
        private int takeMember() {
            int user = isName() ? rules.users.numberOf(word) : NONE;
            int group = isName() ? rules.groups.numberOf(word) : NONE;
            if (user == NONE && group == NONE) {
                fail(isName() ? 3 : 1);
                return 0;
            }
            nextToken();
            return user == NONE ? at(rules.groupMembers, group) : 1 << user;
        }

        /** A word of at most ten letters, a keyword too; NO_WORD behind an error. */
        private long takeWord() {
            if (kind != WORD || word == LONG_WORD) {
                fail(1);
                return NO_WORD;
            }
            long taken = word;
            nextToken();
            return taken;
        }

        private void nextToken() {
            while (position < text.size && isBlank(text.byteAt(position))) {
                position++;
            }
            start = position;
            keyword = null;
            word = NO_WORD;
            value = 0;
            int first = text.byteAt(position);
            if (position >= text.size) {
                kind = END;
            } else if (isLetter(first)) {
                readWord();
            } else if (isDigit(first)) {
                readNumber();
            } else {
                kind = SYMBOL;
                value = first;
                position++;
            }
        }

        private static boolean isBlank(int value) {
            return value == ' ' || value == '\n';
        }

        private void readWord() {
            kind = WORD;
            while (position < text.size && isLetter(text.byteAt(position))) {
                word = withLetter(word, text.byteAt(position));
                position++;
            }
            for (Keyword candidate : KEYWORDS) {
                if (candidate.word == word) {
                    keyword = candidate;
                }
            }
        }

        private void readNumber() {
            kind = NUMBER;
            while (position < text.size && isDigit(text.byteAt(position))) {
                value = Math.min(HUGE, value * 10 + (text.byteAt(position) - '0'));
                position++;
            }
        }
    }

    /** What stays the same of a message. */
    private static final class Message {
        private final int sender;
        private final int day;
        private final int size;
        private final int[] parts;
        private int holds;

        Message(int sender, int day, int size, int places) {
            this.sender = sender;
            this.day = day;
            this.size = size;
            parts = new int[Math.max(0, places)];
        }

        /** The lowest number of its parts above a number; NONE if there is none. */
        int partAbove(int number) {
            int lowest = NONE;
            for (int part : parts) {
                if (part > number && (lowest == NONE || part < lowest)) {
                    lowest = part;
                }
            }
            return lowest;
        }
    }

    /** The parts, by their numbers; removed ones keep their bytes, for holds ask for words of old messages. */
    private static final class Store {
        private static final int REMOVED = -2;

        private int numbers;
        private int stored;
        private int dead;
        private final Bytes[] contents;
        private final int[] firstMessage;
        private final int[] keepers;
        // NONE for a part that is kept
        private final int[] deadSince;
        private final Bytes noBytes;

        Store() {
            contents = new Bytes[MOST_PARTS];
            firstMessage = new int[MOST_PARTS];
            keepers = new int[MOST_PARTS];
            deadSince = new int[MOST_PARTS];
            noBytes = new Bytes(0);
        }

        void clear() {
            numbers = 0;
            stored = 0;
            dead = 0;
        }

        void copyFrom(Store other) {
            numbers = other.numbers;
            stored = other.stored;
            dead = other.dead;
            for (int i = 0; i < contents.length && i < other.contents.length; i++) {
                contents[i] = other.contents[i];
            }
            copyRow(other.firstMessage, firstMessage);
            copyRow(other.keepers, keepers);
            copyRow(other.deadSince, deadSince);
        }

        boolean isStored(int part) {
            return part >= 0 && part < numbers && at(deadSince, part) != REMOVED;
        }

        private boolean isDead(int part) {
            return isStored(part) && at(deadSince, part) != NONE;
        }

        Bytes bytesOf(int part) {
            Bytes found = part >= 0 && part < numbers && part < contents.length ? contents[part] : null;
            return found == null ? noBytes : found;
        }

        int storedAt(int index) {
            int before = 0;
            for (int part = 0; part < numbers; part++) {
                if (isStored(part)) {
                    if (before == index) {
                        return part;
                    }
                    before++;
                }
            }
            return NONE;
        }

        int byteSum(boolean deadOnly) {
            int sum = 0;
            for (int part = 0; part < numbers; part++) {
                if (deadOnly ? isDead(part) : isStored(part)) {
                    sum += bytesOf(part).size;
                }
            }
            return sum;
        }

        int mostKept() {
            int best = NONE;
            for (int part = 0; part < numbers; part++) {
                if (isStored(part) && at(keepers, part) > (best == NONE ? 0 : at(keepers, best))) {
                    best = part;
                }
            }
            return best;
        }

        private int numberOf(Content content, int place) {
            for (int part = 0; part < numbers; part++) {
                if (isStored(part) && content.isEqualTo(bytesOf(part), place)) {
                    return part;
                }
            }
            return NONE;
        }

        int bytesWith(Content content) {
            int sum = byteSum(false);
            for (int place = 0; place < content.places; place++) {
                if (content.isFirstOfItsKind(place) && numberOf(content, place) == NONE) {
                    sum += content.sizeAt(place);
                }
            }
            return sum;
        }

        /** The number of the part at a place, which is stored if it is new. */
        int numberFor(Content content, int place, int message) {
            int known = numberOf(content, place);
            if (known != NONE || numbers >= contents.length) {
                return known;
            }
            int part = numbers;
            if (part >= 0) {
                contents[part] = content.copyOfPlace(place);
            }
            put(firstMessage, part, message);
            put(keepers, part, 0);
            put(deadSince, part, NONE);
            numbers++;
            stored++;
            return part;
        }

        /** True if the part was dead before. */
        boolean addKeeper(int part) {
            put(keepers, part, at(keepers, part) + 1);
            if (!isDead(part)) {
                return false;
            }
            put(deadSince, part, NONE);
            dead--;
            return true;
        }

        /** True if the part is dead by that. */
        boolean dropKeeper(int part, int day) {
            put(keepers, part, at(keepers, part) - 1);
            if (at(keepers, part) > 0) {
                return false;
            }
            put(deadSince, part, day);
            dead++;
            return true;
        }

        int removeDead(int day, int grace, Journal journal) {
            int removed = 0;
            for (int part = 0; part < numbers && dead > 0; part++) {
                if (isDead(part) && day - at(deadSince, part) >= grace) {
                    put(deadSince, part, REMOVED);
                    stored--;
                    dead--;
                    removed++;
                    journal.note(day, EVENT_PART_REMOVED, part);
                }
            }
            return removed;
        }
    }

    /** The latest events, in a ring. */
    private static final class Journal {
        private final int[] days;
        private final int[] kinds;
        private final int[] objects;
        private int first;
        private int size;

        Journal() {
            days = new int[MOST_EVENTS];
            kinds = new int[MOST_EVENTS];
            objects = new int[MOST_EVENTS];
        }

        void clear() {
            first = 0;
            size = 0;
        }

        void copyFrom(Journal other) {
            copyRow(other.days, days);
            copyRow(other.kinds, kinds);
            copyRow(other.objects, objects);
            first = other.first;
            size = other.size;
        }

        void note(int day, int kind, int object) {
            int slot = (first + size) % MOST_EVENTS;
            put(days, slot, day);
            put(kinds, slot, kind);
            put(objects, slot, object);
            if (size < MOST_EVENTS) {
                size++;
            } else {
                first = (first + 1) % MOST_EVENTS;
            }
        }

        int valueAt(int index, int what) {
            int slot = (first + index) % MOST_EVENTS;
            if (what == 0) {
                return at(days, slot);
            }
            return what == 1 ? at(kinds, slot) : at(objects, slot);
        }
    }

    /** All that undo() restores; a reference has the index message * MOST_USERS + user. */
    private static final class Spool {
        private Rules rules;
        private int day;
        private int bouncedUsers;
        private int activeHolds;
        private final int[] quotas;
        private int messageCount;
        private final Message[] messages;
        private final int[] states;
        private final int[] retentions;
        private final int[] entered;
        private final Store store;
        private final Journal journal;
        // the day on which each reference leaves its class, and the first of them: see planLeaving()
        private final int[] leaves;
        private int leavingDay;
        private final int[] newer;
        private final Message noMessage;

        Spool(Rules rules) {
            this.rules = rules;
            quotas = new int[MOST_USERS];
            messages = new Message[MOST_MESSAGES];
            states = new int[MOST_REFERENCES];
            retentions = new int[MOST_REFERENCES];
            entered = new int[MOST_REFERENCES];
            store = new Store();
            journal = new Journal();
            leaves = new int[MOST_REFERENCES];
            leavingDay = NEVER;
            newer = new int[MOST_CLASSES];
            noMessage = new Message(NONE, NONE, 0, 0);
        }

        void startWith(Rules loaded) {
            rules = loaded;
            day = 0;
            bouncedUsers = 0;
            activeHolds = loaded.allHolds();
            copyRow(loaded.userQuota, quotas);
            messageCount = 0;
            store.clear();
            journal.clear();
        }

        void copyFrom(Spool other) {
            rules = other.rules;
            day = other.day;
            bouncedUsers = other.bouncedUsers;
            activeHolds = other.activeHolds;
            copyRow(other.quotas, quotas);
            messageCount = other.messageCount;
            for (int i = 0; i < messages.length && i < other.messages.length; i++) {
                messages[i] = other.messages[i];
            }
            copyRow(other.states, states);
            copyRow(other.retentions, retentions);
            copyRow(other.entered, entered);
            store.copyFrom(other.store);
            journal.copyFrom(other.journal);
        }

        // ---- what there is

        Message messageAt(int message) {
            boolean there = message >= 0 && message < messageCount && message < messages.length;
            Message found = there ? messages[message] : null;
            return found == null ? noMessage : found;
        }

        int stateOf(int message, int user) {
            if (message < 0 || message >= messageCount || !rules.users.has(user)) {
                return NO_REFERENCE;
            }
            return at(states, message * MOST_USERS + user);
        }

        int retentionOf(int message, int user) {
            return at(retentions, message * MOST_USERS + user);
        }

        boolean isHidden(int message, int user) {
            int state = stateOf(message, user);
            return state == HIDDEN_DELETED || state == HIDDEN_EXPIRED;
        }

        int usersIn(int message, int firstState, int lastState) {
            int set = 0;
            for (int user = 0; user < rules.users.size; user++) {
                int state = stateOf(message, user);
                if (state >= firstState && state <= lastState) {
                    set |= 1 << user;
                }
            }
            return set;
        }

        boolean keepsMessage(int message) {
            for (int user = 0; user < rules.users.size; user++) {
                int state = stateOf(message, user);
                if (state >= LIVE && state <= HIDDEN_EXPIRED) {
                    return true;
                }
            }
            return false;
        }

        int holdsCovering(int message, int user) {
            return activeHolds & messageAt(message).holds & rules.holdsOnUser(user);
        }

        int usageOf(int user) {
            int sum = 0;
            for (int message = 0; message < messageCount; message++) {
                if (stateOf(message, user) == LIVE) {
                    sum += messageAt(message).size;
                }
            }
            return sum;
        }

        int liveOf(int user) {
            int found = 0;
            for (int message = 0; message < messageCount; message++) {
                if (stateOf(message, user) == LIVE) {
                    found++;
                }
            }
            return found;
        }

        /** How many live references a user has in a class to messages above a number. */
        int liveInClass(int user, int retention, int above) {
            int found = 0;
            for (int message = above + 1; message < messageCount; message++) {
                if (stateOf(message, user) == LIVE && retentionOf(message, user) == retention) {
                    found++;
                }
            }
            return found;
        }

        boolean classKeeps(int message, int user) {
            int retention = retentionOf(message, user);
            return stateOf(message, user) == LIVE
                    && liveInClass(user, retention, message) < at(rules.classKeep, retention);
        }

        int expiryOf(int message, int user) {
            int retention = retentionOf(message, user);
            int ladder = rules.ladderFrom(retention);
            if (stateOf(message, user) != LIVE || ladder == NONE) {
                return NONE;
            }
            int days = at(rules.classDays, retention);
            // a reference that its class has kept beyond its days could leave it tomorrow at the earliest
            int leaving = Math.max(at(entered, message * MOST_USERS + user) + days, day + 1);
            return leaving + ladder - days;
        }

        boolean hasWord(int message, long word) {
            for (int part : messageAt(message).parts) {
                if (store.bytesOf(part).hasWord(word)) {
                    return true;
                }
            }
            return false;
        }

        int liveWithWord(int user, long word) {
            int found = 0;
            for (int message = 0; message < messageCount; message++) {
                if (stateOf(message, user) == LIVE && hasWord(message, word)) {
                    found++;
                }
            }
            return found;
        }

        /** Puts down for each part the set of the users with a live reference to a message that has it. */
        void gatherReaders(int[] readersOfPart) {
            Arrays.fill(readersOfPart, 0);
            for (int message = 0; message < messageCount; message++) {
                int users = usersIn(message, LIVE, LIVE);
                for (int part : messageAt(message).parts) {
                    put(readersOfPart, part, at(readersOfPart, part) | users);
                }
            }
        }

        int hiddenOnlyBy(int hold) {
            int user = at(rules.holdUser, hold);
            int found = 0;
            for (int message = 0; message < messageCount; message++) {
                if (isHidden(message, user) && holdsCovering(message, user) == 1 << hold) {
                    found++;
                }
            }
            return found;
        }

        // ---- delivery

        int receive(Content content, int sender, int recipients, int retention) {
            bouncedUsers = bounce(recipients, content.sizeOfAll());
            if (bouncedUsers == recipients) {
                return BOUNCED;
            }
            int number = messageCount;
            Message message = new Message(sender, day, content.sizeOfAll(), content.places);
            for (int place = 0; place < content.places; place++) {
                int part = store.numberFor(content, place, number);
                put(message.parts, place, part);
                if (content.isFirstOfItsKind(place) && store.addKeeper(part)) {
                    journal.note(day, EVENT_PART_KEPT, part);
                }
            }
            if (number >= 0 && number < messages.length) {
                messages[number] = message;
            }
            messageCount++;
            message.holds = holdsAskingFor(number);
            addReferences(number, recipients & ~bouncedUsers, retention);
            journal.note(day, EVENT_DELIVERED, number);
            return number;
        }

        private int bounce(int recipients, int size) {
            int set = 0;
            for (int user = 0; user < rules.users.size; user++) {
                if (hasBit(recipients, user) && usageOf(user) + size > at(quotas, user)) {
                    set |= 1 << user;
                    journal.note(day, EVENT_BOUNCED, user);
                }
            }
            return set;
        }

        /** The holds, active or not, whose days and word fit a message. */
        private int holdsAskingFor(int message) {
            int set = 0;
            for (int hold = 0; hold < rules.holds.size; hold++) {
                long word = rules.wordOfHold(hold);
                boolean onDay = day >= at(rules.holdFrom, hold) && day <= at(rules.holdTo, hold);
                if (onDay && (word == NO_WORD || hasWord(message, word))) {
                    set |= 1 << hold;
                }
            }
            return set;
        }

        private void addReferences(int message, int readers, int retention) {
            for (int user = 0; user < MOST_USERS; user++) {
                int reference = message * MOST_USERS + user;
                put(states, reference, hasBit(readers, user) ? LIVE : NO_REFERENCE);
                put(retentions, reference, retention == NONE ? at(rules.userClass, user) : retention);
                put(entered, reference, day);
            }
        }

        // ---- references change

        void enterClass(int message, int user, int retention) {
            put(retentions, message * MOST_USERS + user, retention);
            put(entered, message * MOST_USERS + user, day);
        }

        void bringBack(int message, int user) {
            put(states, message * MOST_USERS + user, LIVE);
            put(entered, message * MOST_USERS + user, day);
        }

        void endReference(int message, int user, int stateUnderHold) {
            boolean held = holdsCovering(message, user) != 0;
            put(states, message * MOST_USERS + user, held ? stateUnderHold : GONE);
            journal.note(day, held ? EVENT_HIDDEN : EVENT_GONE, message);
            if (!held && !keepsMessage(message)) {
                dropParts(messageAt(message));
            }
        }

        private void dropParts(Message message) {
            int part = message.partAbove(NONE);
            for (int i = 0; i < MOST_PLACES && part != NONE; i++) {
                if (store.dropKeeper(part, day)) {
                    journal.note(day, EVENT_PART_DEAD, part);
                }
                part = message.partAbove(part);
            }
        }

        /** How many references are gone by that. */
        int releaseHold(int hold) {
            activeHolds &= ~(1 << hold);
            int user = at(rules.holdUser, hold);
            int lost = 0;
            for (int message = 0; message < messageCount; message++) {
                if (isHidden(message, user) && holdsCovering(message, user) == 0) {
                    endReference(message, user, GONE);
                    lost++;
                }
            }
            return lost;
        }

        // ---- days

        /**
         * Finds for each reference the day on which it leaves its class, if nothing but days happens before.
         * On a day of leaving this stays true for each reference until it is looked at: only references to
         * messages of lower numbers have changed by then, and whether it is kept depends on higher ones.
         */
        void planLeaving() {
            leavingDay = NEVER;
            for (int user = 0; user < rules.users.size; user++) {
                planLeavingOf(user);
            }
        }

        private void planLeavingOf(int user) {
            Arrays.fill(newer, 0);
            for (int message = messageCount - 1; message >= 0; message--) {
                int due = NEVER;
                if (stateOf(message, user) == LIVE) {
                    int retention = retentionOf(message, user);
                    due = dueDay(message, user, at(newer, retention));
                    put(newer, retention, at(newer, retention) + 1);
                }
                put(leaves, message * MOST_USERS + user, due);
                leavingDay = Math.min(leavingDay, due);
            }
        }

        private int dueDay(int message, int user, int newerInClass) {
            int retention = retentionOf(message, user);
            int days = at(rules.classDays, retention);
            if (days == NONE || newerInClass < at(rules.classKeep, retention)) {
                return NEVER;
            }
            return Math.max(day + 1, at(entered, message * MOST_USERS + user) + days);
        }

        /** True if no day to come changes anything but the day itself. */
        boolean isAtRest() {
            return leavingDay == NEVER && store.dead == 0;
        }

        /** How many parts are removed on the next day; planLeaving() must have been called since the last change. */
        int beginDay() {
            day++;
            if (day >= leavingDay) {
                leaveClasses();
                planLeaving();
            }
            int removed = 0;
            if (rules.interval > 0 && day % rules.interval == 0) {
                removed = store.removeDead(day, rules.grace, journal);
                journal.note(day, EVENT_ROUND, removed);
            }
            journal.note(day, EVENT_DAY, day);
            return removed;
        }

        private void leaveClasses() {
            for (int message = 0; message < messageCount; message++) {
                for (int user = 0; user < rules.users.size; user++) {
                    int next = at(rules.classNext, retentionOf(message, user));
                    boolean isDue = at(leaves, message * MOST_USERS + user) <= day;
                    if (isDue && next == NONE) {
                        endReference(message, user, HIDDEN_EXPIRED);
                    } else if (isDue) {
                        enterClass(message, user, next);
                        journal.note(day, EVENT_MOVED, message);
                    }
                }
            }
        }
    }
}
