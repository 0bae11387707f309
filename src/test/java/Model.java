import java.util.ArrayDeque;
import java.util.ArrayList;
import java.util.Arrays;
import java.util.Deque;
import java.util.HashMap;
import java.util.HashSet;
import java.util.List;
import java.util.Map;
import java.util.NoSuchElementException;
import java.util.Set;
import java.util.TreeMap;
import java.util.TreeSet;
import java.util.regex.Matcher;
import java.util.regex.Pattern;

/**
 * The document once more, in its plainest form: texts, maps and whole copies, nothing counted ahead and no day
 * skipped. ModelTest compares MailSpool with it.
 */
public final class Model {
    private static final Set<String> KEYWORDS = Set.of("spool", "grace", "round", "class", "days", "forever", "keep",
            "then", "user", "quota", "group", "hold", "from", "to", "word");

    private static final class Bad extends RuntimeException {
        private static final long serialVersionUID = 1;
        private final int code;
        private final int position;

        Bad(int code, int position) {
            this.code = code;
            this.position = position;
        }
    }

    private record Token(char kind, String text, int position) {
    }

    private record Kind(String name, int days, int keep, int next) {
    }

    private record Person(String name, int kind, int quota) {
    }

    private record Group(String name, int set) {
    }

    private record Hold(String name, int user, int from, int to, String word) {
    }

    private static final class Config {
        private int grace = 0;
        private int interval = 1;
        private final List<Kind> kinds = new ArrayList<>();
        private final List<Person> people = new ArrayList<>();
        private final List<Group> groups = new ArrayList<>();
        private final List<Hold> holds = new ArrayList<>();

        List<String> names(int kind) {
            List<String> names = new ArrayList<>();
            if (kind == 0) {
                kinds.forEach(x -> names.add(x.name));
            } else if (kind == 1) {
                people.forEach(x -> names.add(x.name));
            } else if (kind == 2) {
                groups.forEach(x -> names.add(x.name));
            } else {
                holds.forEach(x -> names.add(x.name));
            }
            return names;
        }
    }

    private static final class Reference {
        private int state;
        private int kind;
        private int entered;
    }

    private static final class Letter {
        private int sender;
        private int day;
        private List<Integer> parts;
        private List<String> texts;
        private TreeMap<Integer, Reference> references = new TreeMap<>();

        int size() {
            return texts.stream().mapToInt(String::length).sum();
        }

        boolean kept() {
            return references.values().stream().anyMatch(r -> r.state != 3);
        }

        boolean live(int user) {
            return references.containsKey(user) && references.get(user).state == 0;
        }

        boolean contains(String word) {
            for (String text : texts) {
                Matcher runs = Pattern.compile("[a-z]+").matcher(text);
                while (runs.find()) {
                    if (runs.group().equals(word)) {
                        return true;
                    }
                }
            }
            return false;
        }
    }

    private static final class World {
        private Config config = new Config();
        private int day = 0;
        private int bounced = 0;
        private Set<Integer> active = new HashSet<>();
        private List<Integer> quotas = new ArrayList<>();
        private List<Letter> letters = new ArrayList<>();
        private int parts = 0;
        private TreeMap<Integer, String> store = new TreeMap<>();
        private Map<Integer, Integer> deadSince = new HashMap<>();
        private List<int[]> events = new ArrayList<>();

        World copy() {
            World other = new World();
            other.config = config;
            other.day = day;
            other.bounced = bounced;
            other.active = new HashSet<>(active);
            other.quotas = new ArrayList<>(quotas);
            for (Letter letter : letters) {
                Letter twin = new Letter();
                twin.sender = letter.sender;
                twin.day = letter.day;
                twin.parts = letter.parts;
                twin.texts = letter.texts;
                letter.references.forEach((user, old) -> {
                    Reference reference = new Reference();
                    reference.state = old.state;
                    reference.kind = old.kind;
                    reference.entered = old.entered;
                    twin.references.put(user, reference);
                });
                other.letters.add(twin);
            }
            other.parts = parts;
            other.store = new TreeMap<>(store);
            other.deadSince = new HashMap<>(deadSince);
            other.events = new ArrayList<>(events);
            return other;
        }

        void note(int kind, int object) {
            events.add(new int[] {day, kind, object});
            if (events.size() > 60) {
                events.remove(0);
            }
        }

        int usage(int user) {
            return letters.stream().filter(m -> m.live(user)).mapToInt(Letter::size).sum();
        }

        long keepers(int part) {
            return letters.stream().filter(m -> m.kept() && m.parts.contains(part)).count();
        }

        int covering(int message, int user) {
            int set = 0;
            Letter letter = letters.get(message);
            for (int h : active) {
                Hold hold = config.holds.get(h);
                if (hold.user == user && letter.day >= hold.from && letter.day <= hold.to
                        && (hold.word == null || letter.contains(hold.word))) {
                    set |= 1 << h;
                }
            }
            return set;
        }

        boolean classKeeps(int message, int user) {
            if (!letters.get(message).live(user)) {
                return false;
            }
            int kind = letters.get(message).references.get(user).kind;
            List<Integer> newest = new ArrayList<>();
            for (int m = letters.size() - 1; m >= 0; m--) {
                if (letters.get(m).live(user) && letters.get(m).references.get(user).kind == kind
                        && newest.size() < config.kinds.get(kind).keep) {
                    newest.add(m);
                }
            }
            return newest.contains(message);
        }

        void lose(int message, int user, int stateUnderHold) {
            Letter letter = letters.get(message);
            if (covering(message, user) != 0) {
                letter.references.get(user).state = stateUnderHold;
                note(5, message);
                return;
            }
            letter.references.get(user).state = 3;
            note(4, message);
            if (!letter.kept()) {
                for (int part : new TreeSet<>(letter.parts)) {
                    if (keepers(part) == 0) {
                        deadSince.put(part, day);
                        note(6, part);
                    }
                }
            }
        }

        int nextDay() {
            day++;
            for (int m = 0; m < letters.size(); m++) {
                for (int user = 0; user < config.people.size(); user++) {
                    if (letters.get(m).live(user)) {
                        leave(m, user);
                    }
                }
            }
            int removed = 0;
            if (day % config.interval == 0) {
                for (int part : new ArrayList<>(store.keySet())) {
                    if (deadSince.containsKey(part) && day - deadSince.get(part) >= config.grace) {
                        store.remove(part);
                        deadSince.remove(part);
                        note(8, part);
                        removed++;
                    }
                }
                note(9, removed);
            }
            note(10, day);
            return removed;
        }

        private void leave(int m, int user) {
            Reference reference = letters.get(m).references.get(user);
            Kind kind = config.kinds.get(reference.kind);
            if (kind.days == -1 || day - reference.entered < kind.days || classKeeps(m, user)) {
                return;
            }
            if (kind.next == -1) {
                lose(m, user, 2);
            } else {
                reference.kind = kind.next;
                reference.entered = day;
                note(3, m);
            }
        }
    }

    private World world = new World();
    private final Deque<World> past = new ArrayDeque<>();
    private String input = "";
    private String output = "";
    private int code = 0;
    private int position = -1;

    // ---- parser

    private List<Token> tokens;
    private int next;
    private Config parsed;

    private void tokenize(String text) {
        tokens = new ArrayList<>();
        Matcher all = Pattern.compile("([a-z]+)|([0-9]+)|([^ \n])", Pattern.DOTALL).matcher(text);
        while (all.find()) {
            char kind = all.group(1) != null ? 'w' : all.group(2) != null ? 'n' : 's';
            tokens.add(new Token(kind, all.group(), all.start()));
        }
        tokens.add(new Token('e', "", text.length()));
        next = 0;
        parsed = new Config();
    }

    private Token peek() {
        return tokens.get(next);
    }

    private void need(String text) {
        if (!peek().text.equals(text) || peek().kind == 'e') {
            throw new Bad(1, peek().position);
        }
        next++;
    }

    private boolean option(String text) {
        if (peek().text.equals(text)) {
            next++;
            return true;
        }
        return false;
    }

    private int number(int least, int most) {
        Token token = tokens.get(next);
        if (token.kind != 'n') {
            throw new Bad(1, token.position);
        }
        java.math.BigInteger value = new java.math.BigInteger(token.text);
        if (value.compareTo(java.math.BigInteger.valueOf(least)) < 0
                || value.compareTo(java.math.BigInteger.valueOf(most)) > 0) {
            throw new Bad(2, token.position);
        }
        next++;
        return value.intValue();
    }

    private String name() {
        Token token = tokens.get(next);
        if (token.kind != 'w' || token.text.length() > 6 || KEYWORDS.contains(token.text)) {
            throw new Bad(1, token.position);
        }
        next++;
        return token.text;
    }

    private String newName(int kind, int other) {
        int at = peek().position;
        String name = name();
        if (parsed.names(kind).contains(name) || parsed.names(other).contains(name)) {
            throw new Bad(3, at);
        }
        return name;
    }

    private int known(int kind) {
        int at = peek().position;
        int number = parsed.names(kind).indexOf(name());
        if (number < 0) {
            throw new Bad(3, at);
        }
        return number;
    }

    private void parse(String text) {
        tokenize(text);
        need("spool");
        need("grace");
        parsed.grace = number(0, 30);
        need("round");
        parsed.interval = number(1, 30);
        need(";");
        while (peek().kind != 'e') {
            Token first = peek();
            switch (first.text) {
                case "class" -> limit(parsed.kinds.size() >= 8);
                case "user" -> limit(parsed.people.size() >= 10 || parsed.kinds.isEmpty());
                case "group" -> limit(parsed.groups.size() >= 6 || parsed.people.isEmpty());
                case "hold" -> limit(parsed.holds.size() >= 6 || parsed.people.isEmpty());
                default -> throw new Bad(1, first.position);
            }
            next++;
            statement(first.text);
            need(";");
        }
    }

    private void limit(boolean over) {
        if (over) {
            throw new Bad(4, peek().position);
        }
    }

    private void statement(String first) {
        switch (first) {
            case "class" -> {
                String name = newName(0, 0);
                need("days");
                int days = option("forever") ? -1 : number(1, 999);
                int keep = option("keep") ? number(1, 99) : 0;
                int then = option("then") ? known(0) : -1;
                parsed.kinds.add(new Kind(name, days, keep, then));
            }
            case "user" -> {
                String name = newName(1, 2);
                need("class");
                int kind = known(0);
                need("quota");
                parsed.people.add(new Person(name, kind, number(1, 99999)));
            }
            case "group" -> {
                String name = newName(1, 2);
                int set = 0;
                do {
                    int at = peek().position;
                    String member = name();
                    if (parsed.names(1).contains(member)) {
                        set |= 1 << parsed.names(1).indexOf(member);
                    } else if (parsed.names(2).contains(member)) {
                        set |= parsed.groups.get(parsed.names(2).indexOf(member)).set;
                    } else {
                        throw new Bad(3, at);
                    }
                } while (option(","));
                parsed.groups.add(new Group(name, set));
            }
            default -> {
                String name = newName(3, 3);
                need("user");
                int user = known(1);
                int from = 0;
                int to = Integer.MAX_VALUE;
                if (option("from")) {
                    from = number(0, 9999);
                    need("to");
                    to = number(from, 9999);
                }
                String word = null;
                if (option("word")) {
                    Token token = peek();
                    if (token.kind != 'w' || token.text.length() > 10) {
                        throw new Bad(1, token.position);
                    }
                    word = token.text;
                    next++;
                }
                parsed.holds.add(new Hold(name, user, from, to, word));
            }
        }
    }

    // ---- checks

    private static void found(boolean there) {
        if (!there) {
            throw new NoSuchElementException();
        }
    }

    private static void legal(boolean right) {
        if (!right) {
            throw new IllegalArgumentException();
        }
    }

    private static void possible(boolean right) {
        if (!right) {
            throw new IllegalStateException();
        }
    }

    private void user(int user) {
        found(user >= 0 && user < world.config.people.size());
    }

    private void kind(int kind) {
        found(kind >= 0 && kind < world.config.kinds.size());
    }

    private Letter letter(int message) {
        found(message >= 0 && message < world.letters.size());
        return world.letters.get(message);
    }

    private Reference reference(int message, int user) {
        user(user);
        Reference reference = letter(message).references.get(user);
        found(reference != null);
        return reference;
    }

    private void remember(World before) {
        past.addLast(before);
        if (past.size() > 6) {
            past.removeFirst();
        }
    }

    private World after(int days) {
        World copy = world.copy();
        for (int i = 0; i < days; i++) {
            copy.nextDay();
        }
        return copy;
    }

    // ---- the face

    public int append(int a, int b, int c, int d, int e) {
        possible(input.length() + 20 <= 1200);
        for (int four : new int[] {a, b, c, d, e}) {
            for (int shift = 24; shift >= 0; shift -= 8) {
                input += (char) (four >> shift & 255);
            }
        }
        return input.length();
    }

    public void truncate(int length) {
        legal(length >= 0 && length <= input.length());
        input = input.substring(0, length);
    }

    public int load() {
        String text = input;
        input = "";
        try {
            parse(text);
        } catch (Bad bad) {
            code = bad.code;
            position = bad.position;
            return -4;
        }
        code = 0;
        position = -1;
        remember(world);
        world = new World();
        world.config = parsed;
        for (int h = 0; h < parsed.holds.size(); h++) {
            world.active.add(h);
        }
        parsed.people.forEach(p -> world.quotas.add(p.quota));
        return parsed.people.size();
    }

    public int errorCode() {
        return code;
    }

    public int errorPosition() {
        return position;
    }

    public int find(int kind) {
        legal(kind >= 0 && kind <= 3);
        int number = world.config.names(kind).indexOf(input);
        input = "";
        return number;
    }

    public int count(int kind) {
        legal(kind >= 0 && kind <= 3);
        return world.config.names(kind).size();
    }

    public int members(int group) {
        found(group >= 0 && group < world.config.groups.size());
        return world.config.groups.get(group).set;
    }

    public int retention(int retention, int what) {
        kind(retention);
        legal(what >= 0 && what <= 2);
        Kind kind = world.config.kinds.get(retention);
        return what == 0 ? kind.days : what == 1 ? kind.keep : kind.next;
    }

    public int ladderDays(int retention) {
        kind(retention);
        int sum = 0;
        for (int k = retention; k != -1; k = world.config.kinds.get(k).next) {
            if (world.config.kinds.get(k).days == -1) {
                return -1;
            }
            sum += world.config.kinds.get(k).days;
        }
        return sum;
    }

    public int day() {
        return world.day;
    }

    public int deliver(int sender, int recipients, int retention) {
        user(sender);
        if (retention != -1) {
            kind(retention);
        }
        for (int bit = 0; bit < 32; bit++) {
            found((recipients & 1 << bit) == 0 || bit < world.config.people.size());
        }
        List<String> texts = Arrays.asList(input.split("\\|", -1));
        legal(recipients != 0 && texts.size() <= 4);
        texts.forEach(text -> legal(text.length() >= 1 && text.length() <= 200));
        Set<String> all = new HashSet<>(world.store.values());
        all.addAll(texts);
        possible(world.letters.size() < 120 && all.stream().mapToInt(String::length).sum() <= 8000);
        remember(world.copy());
        input = "";
        int size = texts.stream().mapToInt(String::length).sum();
        world.bounced = 0;
        Letter letter = new Letter();
        for (int user = 0; user < world.config.people.size(); user++) {
            if ((recipients >> user & 1) == 0) {
                continue;
            }
            if (world.usage(user) + size > world.quotas.get(user)) {
                world.bounced |= 1 << user;
                world.note(2, user);
                continue;
            }
            Reference reference = new Reference();
            reference.kind = retention == -1 ? world.config.people.get(user).kind : retention;
            reference.entered = world.day;
            letter.references.put(user, reference);
        }
        if (letter.references.isEmpty()) {
            return -2;
        }
        letter.sender = sender;
        letter.day = world.day;
        letter.texts = texts;
        letter.parts = new ArrayList<>();
        texts.forEach(text -> letter.parts.add(partFor(text)));
        world.letters.add(letter);
        world.note(1, world.letters.size() - 1);
        return world.letters.size() - 1;
    }

    private int partFor(String text) {
        for (int part : world.store.keySet()) {
            if (world.store.get(part).equals(text)) {
                if (world.deadSince.remove(part) != null) {
                    world.note(7, part);
                }
                return part;
            }
        }
        world.store.put(world.parts, text);
        return world.parts++;
    }

    public int bounced() {
        return world.bounced;
    }

    public int messageCount() {
        return world.letters.size();
    }

    public int message(int message, int what) {
        Letter letter = letter(message);
        legal(what >= 0 && what <= 4);
        return switch (what) {
            case 0 -> letter.sender;
            case 1 -> letter.day;
            case 2 -> letter.parts.size();
            case 3 -> letter.size();
            default -> letter.kept() ? 1 : 0;
        };
    }

    public int partOf(int message, int index) {
        Letter letter = letter(message);
        found(index >= 0 && index < letter.parts.size());
        return letter.parts.get(index);
    }

    public int readers(int message) {
        int set = 0;
        for (Map.Entry<Integer, Reference> entry : letter(message).references.entrySet()) {
            set |= entry.getValue().state == 0 ? 1 << entry.getKey() : 0;
        }
        return set;
    }

    public int hidden(int message) {
        int set = 0;
        for (Map.Entry<Integer, Reference> entry : letter(message).references.entrySet()) {
            int state = entry.getValue().state;
            set |= state == 1 || state == 2 ? 1 << entry.getKey() : 0;
        }
        return set;
    }

    public int state(int message, int user) {
        return reference(message, user).state;
    }

    public int classOf(int message, int user) {
        return reference(message, user).kind;
    }

    public int enteredOn(int message, int user) {
        return reference(message, user).entered;
    }

    public int expiresOn(int message, int user) {
        Reference reference = reference(message, user);
        if (reference.state != 0) {
            return -1;
        }
        int at = reference.entered;
        int today = world.day;
        for (int k = reference.kind; k != -1; k = world.config.kinds.get(k).next) {
            if (world.config.kinds.get(k).days == -1) {
                return -1;
            }
            at = Math.max(at + world.config.kinds.get(k).days, today + 1);
        }
        return at;
    }

    public boolean isKept(int message, int user) {
        reference(message, user);
        return world.classKeeps(message, user);
    }

    public int holdsOn(int message, int user) {
        reference(message, user);
        return world.covering(message, user);
    }

    public int storedParts() {
        return world.store.size();
    }

    public int storedPart(int index) {
        found(index >= 0 && index < world.store.size());
        return new ArrayList<>(world.store.keySet()).get(index);
    }

    public int part(int part, int what) {
        found(world.store.containsKey(part));
        legal(what >= 0 && what <= 3);
        if (what == 0) {
            return world.store.get(part).length();
        }
        if (what == 1) {
            return (int) world.keepers(part);
        }
        if (what == 2) {
            return world.deadSince.getOrDefault(part, -1);
        }
        int first = 0;
        while (!world.letters.get(first).parts.contains(part)) {
            first++;
        }
        return first;
    }

    public int partByte(int part, int offset) {
        found(world.store.containsKey(part));
        if (offset < 0 || offset >= world.store.get(part).length()) {
            throw new IndexOutOfBoundsException();
        }
        return world.store.get(part).charAt(offset);
    }

    public long digest(int part) {
        found(world.store.containsKey(part));
        long h = -3750763034362895579L;
        for (char c : world.store.get(part).toCharArray()) {
            h = (h ^ c) * 1099511628211L;
        }
        return h;
    }

    public int storedBytes() {
        return world.store.values().stream().mapToInt(String::length).sum();
    }

    public int deadBytes() {
        return world.deadSince.keySet().stream().mapToInt(part -> world.store.get(part).length()).sum();
    }

    public int logicalBytes() {
        int sum = 0;
        for (int user = 0; user < world.config.people.size(); user++) {
            sum += world.usage(user);
        }
        return sum;
    }

    public int mostShared() {
        int best = -1;
        long most = 0;
        for (int part : world.store.keySet()) {
            if (world.keepers(part) > most) {
                most = world.keepers(part);
                best = part;
            }
        }
        return best;
    }

    public int usage(int user) {
        user(user);
        return world.usage(user);
    }

    public int quota(int user) {
        user(user);
        return world.quotas.get(user);
    }

    private TreeSet<Integer> partsRead(int user) {
        TreeSet<Integer> parts = new TreeSet<>();
        world.letters.stream().filter(m -> m.live(user)).forEach(m -> parts.addAll(m.parts));
        return parts;
    }

    public double fairShare(int user) {
        user(user);
        double sum = 0;
        for (int part : partsRead(user)) {
            int sharers = 0;
            for (int other = 0; other < world.config.people.size(); other++) {
                sharers += partsRead(other).contains(part) ? 1 : 0;
            }
            sum += (double) world.store.get(part).length() / sharers;
        }
        return sum;
    }

    public int inClass(int user, int retention) {
        user(user);
        kind(retention);
        return (int) world.letters.stream().filter(m -> m.live(user) && m.references.get(user).kind == retention).count();
    }

    public int matches(int user) {
        user(user);
        legal(input.matches("[a-z]{1,10}"));
        String word = input;
        input = "";
        return (int) world.letters.stream().filter(m -> m.live(user) && m.contains(word)).count();
    }

    public int commonBytes(int user, int other) {
        user(user);
        user(other);
        TreeSet<Integer> parts = partsRead(user);
        parts.retainAll(partsRead(other));
        return parts.stream().mapToInt(part -> world.store.get(part).length()).sum();
    }

    public int file(int message, int user, int retention) {
        kind(retention);
        Reference reference = reference(message, user);
        possible(reference.state == 0);
        int previous = reference.kind;
        if (previous != retention || reference.entered != world.day) {
            remember(world.copy());
            reference.kind = retention;
            reference.entered = world.day;
        }
        return previous;
    }

    public int delete(int message, int user) {
        Reference reference = reference(message, user);
        possible(reference.state == 0);
        remember(world.copy());
        world.lose(message, user, 1);
        return reference.state;
    }

    public int recover(int message, int user) {
        Reference reference = reference(message, user);
        possible(reference.state == 1 || reference.state == 2);
        remember(world.copy());
        int previous = reference.state;
        reference.state = 0;
        reference.entered = world.day;
        return previous;
    }

    public boolean isActive(int hold) {
        found(hold >= 0 && hold < world.config.holds.size());
        return world.active.contains(hold);
    }

    public int setHold(int hold, boolean active) {
        if (isActive(hold) == active) {
            return 0;
        }
        remember(world.copy());
        return switchHold(world, hold, active);
    }

    private static int switchHold(World world, int hold, boolean active) {
        if (active) {
            world.active.add(hold);
        } else {
            world.active.remove(hold);
        }
        int gone = 0;
        for (int m = 0; m < world.letters.size(); m++) {
            for (int user : world.letters.get(m).references.keySet()) {
                int state = world.letters.get(m).references.get(user).state;
                if ((state == 1 || state == 2) && world.covering(m, user) == 0) {
                    world.lose(m, user, 3);
                    gone++;
                }
            }
        }
        return gone;
    }

    public int heldOnlyBy(int hold) {
        return isActive(hold) ? switchHold(world.copy(), hold, false) : 0;
    }

    public int setQuota(int user, int bytes) {
        user(user);
        legal(bytes >= 1 && bytes <= 99999);
        int previous = world.quotas.get(user);
        if (previous != bytes) {
            remember(world.copy());
            world.quotas.set(user, bytes);
        }
        return previous;
    }

    public int advance(int days) {
        legal(days >= 1 && days <= 1000);
        possible(world.day + days <= 20000);
        remember(world.copy());
        int removed = 0;
        for (int i = 0; i < days; i++) {
            removed += world.nextDay();
        }
        return removed;
    }

    public int nextRound() {
        int day = world.day + 1;
        while (day % world.config.interval != 0) {
            day++;
        }
        return day;
    }

    public int removedOn(int part) {
        found(world.store.containsKey(part));
        World copy = world.copy();
        for (int i = 0; i < 2000; i++) {
            copy.nextDay();
            if (!copy.store.containsKey(part)) {
                return copy.day;
            }
        }
        return -1;
    }

    public int emptyOn() {
        World copy = world.copy();
        for (int i = 0; i < 2000 && !copy.store.isEmpty(); i++) {
            copy.nextDay();
        }
        return copy.store.isEmpty() ? copy.day : -1;
    }

    public int bytesAfter(int days) {
        legal(days >= 0 && days <= 2000);
        return after(days).store.values().stream().mapToInt(String::length).sum();
    }

    public int goneAfter(int user, int days) {
        user(user);
        legal(days >= 0 && days <= 2000);
        World copy = after(days);
        int gone = 0;
        for (int m = 0; m < world.letters.size(); m++) {
            gone += world.letters.get(m).live(user) && !copy.letters.get(m).live(user) ? 1 : 0;
        }
        return gone;
    }

    public int eventCount() {
        return world.events.size();
    }

    public int event(int index, int what) {
        found(index >= 0 && index < world.events.size());
        legal(what >= 0 && what <= 2);
        return world.events.get(index)[what];
    }

    public int eventsOf(int kind) {
        legal(kind >= 1 && kind <= 10);
        return (int) world.events.stream().filter(e -> e[1] == kind).count();
    }

    public int undo() {
        possible(!past.isEmpty());
        world = past.removeLast();
        return past.size();
    }

    public int undoCount() {
        return past.size();
    }

    public int writeMailbox(int user) {
        user(user);
        StringBuilder all = new StringBuilder();
        for (int m = 0; m < world.letters.size(); m++) {
            if (world.letters.get(m).live(user)) {
                Reference reference = world.letters.get(m).references.get(user);
                all.append(m).append(':').append(world.config.kinds.get(reference.kind).name).append('/')
                        .append(reference.entered).append('\n');
            }
        }
        output = all.toString();
        return output.length();
    }

    public int outputByte(int index) {
        if (index < 0 || index >= output.length()) {
            throw new IndexOutOfBoundsException();
        }
        return output.charAt(index);
    }
}
