import java.lang.reflect.InvocationTargetException;
import java.lang.reflect.Method;
import java.util.ArrayList;
import java.util.HashMap;
import java.util.List;
import java.util.Map;

/** Runs of calls, made by a fixed row of numbers, on MailSpool and on Model: each answer must be the same. */
public final class ModelTest {
    private static final String[] WORDS = {"spool", "grace", "round", "class", "days", "forever", "keep", "then",
            "user", "quota", "group", "hold", "from", "to", "word", "a", "b", "c", "d", "e", "f", "g", "h", "abcdef",
            "abcdefg", "abcdefghij", "abcdefghijk", "0", "1", "5", "30", "31", "99", "100", "999", "1000", "9999",
            "10000", "99999", "100000", "99999999999", "007", ";", ",", ".", "A", "\u00e9", "|", "\u0000"};
    private static final String[] PARTS = {"tax", "hello", "tax form", "x", "hello world", "TAX", "taxes", "a-tax-b",
            "abcdefghij", "abcdefghijk tax", "\u00ff\u0000z", "a", "aa", "cc bb aa"};

    private long seed;
    private MailSpool spool = new MailSpool();
    private Model model = new Model();
    private final Map<String, Method[]> methods = new HashMap<>();
    private final List<String> trail = new ArrayList<>();
    private int wrong = 0;
    private int calls = 0;

    private ModelTest(long seed) {
        this.seed = seed;
        for (Method method : MailSpool.class.getDeclaredMethods()) {
            for (Method twin : Model.class.getDeclaredMethods()) {
                boolean isPublic = (method.getModifiers() & twin.getModifiers() & 1) != 0;
                if (isPublic && method.getName().equals(twin.getName())) {
                    methods.put(method.getName(), new Method[] {method, twin});
                }
            }
        }
    }

    public static void main(String[] args) {
        int scale = args.length > 0 ? Integer.parseInt(args[0]) : 1;
        int calls = 0;
        int wrong = 0;
        for (int i = 0; i < 60 * scale; i++) {
            ModelTest test = new ModelTest(1000 + i);
            test.parseTexts();
            wrong += test.wrong;
            calls += test.calls;
        }
        for (int i = 0; i < 60 * scale && wrong < 20; i++) {
            ModelTest test = new ModelTest(7 + i * 31);
            test.runWorld(i % 3);
            wrong += test.wrong;
            calls += test.calls;
        }
        Check.due("methods compared", new ModelTest(0).methods.size(), 59);
        Check.due("calls enough", calls > 10000, true);
        Check.due("answers unlike the model's of " + calls, wrong, 0);
        Check.end();
    }

    private int random(int bound) {
        seed = seed * 6364136223846793005L + 1442695040888963407L;
        return (int) ((seed >>> 33) % bound);
    }

    private boolean chance(int percent) {
        return random(100) < percent;
    }

    private String answer(Object object, Method method, Object[] values) {
        try {
            return String.valueOf(method.invoke(object, values));
        } catch (InvocationTargetException e) {
            return e.getCause().getClass().getName();
        } catch (IllegalAccessException e) {
            return "no access";
        }
    }

    private String call(String name, Object... values) {
        Method[] pair = methods.get(name);
        String got = answer(spool, pair[0], values);
        String want = answer(model, pair[1], values);
        calls++;
        if (!got.equals(want)) {
            wrong++;
            if (wrong <= 3) {
                trail.forEach(System.out::println);
                System.out.println(name + java.util.Arrays.toString(values) + " answered " + got + ", due is " + want);
            }
        }
        return got;
    }

    /** A call that changes something, put on the trail that a fault is told with. */
    private String act(String name, Object... values) {
        trail.add(name + java.util.Arrays.toString(values));
        return call(name, values);
    }

    private void fill(String text) {
        trail.add("fill " + text);
        call("truncate", 0);
        for (int from = 0; from < text.length(); from += 20) {
            Object[] values = new Object[5];
            for (int i = 0; i < 5; i++) {
                int four = 0;
                for (int k = 0; k < 4; k++) {
                    int at = from + 4 * i + k;
                    four = four << 8 | (at < text.length() ? text.charAt(at) & 255 : 32);
                }
                values[i] = four;
            }
            call("append", values);
        }
        call("truncate", Math.min(text.length(), 1200));
    }

    // ---- texts

    private List<String> names = new ArrayList<>();

    private String freshName() {
        for (int i = 0; i < 1000; i++) {
            StringBuilder name = new StringBuilder();
            int length = 1 + random(6);
            for (int k = 0; k < length; k++) {
                name.append((char) ('a' + random(chance(50) ? 3 : 26)));
            }
            if (!names.contains(name.toString()) && !List.of(WORDS).subList(0, 15).contains(name.toString())) {
                names.add(name.toString());
                return name.toString();
            }
        }
        throw new IllegalStateException("no name left");
    }

    private String pick(List<String> from) {
        return from.get(random(from.size()));
    }

    /** The tokens of a text that is right, but for names that are cut off by its length. */
    private List<String> text(int style) {
        names.clear();
        List<String> classes = new ArrayList<>();
        List<String> users = new ArrayList<>();
        List<String> groups = new ArrayList<>();
        List<String> all = new ArrayList<>(List.of("spool", "grace", "" + random(chance(50) ? 4 : 31), "round",
                "" + (1 + random(chance(50) ? 5 : 30)), ";"));
        int classCount = 1 + random(8);
        for (int i = 0; i < classCount; i++) {
            String name = freshName();
            all.addAll(List.of("class", name, "days", chance(15) ? "forever" : "" + (1 + random(style == 0 ? 4 : 25))));
            if (chance(40)) {
                all.addAll(List.of("keep", "" + (1 + random(4))));
            }
            if (!classes.isEmpty() && chance(60)) {
                all.addAll(List.of("then", pick(classes)));
            }
            all.add(";");
            classes.add(name);
        }
        int userCount = 1 + random(10);
        for (int i = 0; i < userCount; i++) {
            String name = freshName();
            all.addAll(List.of("user", name, "class", pick(classes), "quota", "" + (5 + random(chance(50) ? 60 : 500)), ";"));
            users.add(name);
        }
        List<String> members = new ArrayList<>(users);
        int groupCount = random(4);
        for (int i = 0; i < groupCount; i++) {
            String name = freshName();
            all.addAll(List.of("group", name, pick(members)));
            while (chance(50)) {
                all.addAll(List.of(",", pick(members)));
            }
            all.add(";");
            groups.add(name);
            members.add(name);
        }
        int holdCount = random(7);
        for (int i = 0; i < holdCount; i++) {
            all.addAll(List.of("hold", freshName(), "user", pick(users)));
            if (chance(40)) {
                int from = random(20);
                all.addAll(List.of("from", "" + from, "to", "" + (from + random(20))));
            }
            if (chance(40)) {
                all.addAll(List.of("word", chance(70) ? "tax" : "hello"));
            }
            all.add(";");
        }
        return all;
    }

    private void spoil(List<String> tokens) {
        int spoils = 1 + random(2);
        for (int i = 0; i < spoils && !tokens.isEmpty(); i++) {
            int at = random(tokens.size());
            String other = chance(70) ? WORDS[random(WORDS.length)] : tokens.get(random(tokens.size()));
            switch (random(5)) {
                case 0 -> tokens.remove(at);
                case 1 -> tokens.add(at, other);
                case 2 -> tokens.subList(at, tokens.size()).clear();
                default -> tokens.set(at, other);
            }
        }
    }

    private String joined(List<String> tokens) {
        StringBuilder all = new StringBuilder();
        for (String token : tokens) {
            boolean touches = all.length() > 0 && Character.isLetterOrDigit(all.charAt(all.length() - 1))
                    && Character.isLetterOrDigit(token.charAt(0));
            all.append(touches || chance(10) ? chance(90) ? " " : "\n " : "").append(token);
        }
        return all.length() > 1200 ? all.substring(0, 1200) : all.toString();
    }

    private void parseTexts() {
        for (int i = 0; i < 60; i++) {
            List<String> tokens = text(0);
            if (chance(70)) {
                spoil(tokens);
            }
            trail.clear();
            fill(joined(tokens));
            act("load");
            call("errorCode");
            call("errorPosition");
            call("undoCount");
            observeRules();
            fill(names.get(random(names.size())));
            act("find", random(5));
        }
    }

    private void observeRules() {
        for (int kind = -1; kind <= 4; kind++) {
            call("count", kind);
        }
        for (int i = -1; i <= 10; i++) {
            call("members", i);
            call("ladderDays", i);
            call("quota", i);
            call("isActive", i);
            for (int what = -1; what <= 3; what++) {
                call("retention", i, what);
            }
        }
    }

    // ---- worlds

    private void loadWorld(int style) {
        for (int i = 0; i < 20; i++) {
            fill(joined(text(style)));
            if (!act("load").equals("-4")) {
                return;
            }
        }
    }

    private void runWorld(int style) {
        if (chance(90)) {
            loadWorld(style);
        }
        int steps = 120;
        for (int step = 0; step < steps && wrong == 0; step++) {
            step(style);
            if (step % 4 == 0) {
                observeAll();
            }
            call("eventCount");
            call("undoCount");
        }
        predict();
    }

    private int user() {
        return random(11) - (chance(5) ? 1 : 0);
    }

    private int message() {
        return random(spool.messageCount() + 1) - (chance(5) ? 1 : 0);
    }

    private void step(int style) {
        int what = random(100);
        if (what < 40) {
            deliver();
        } else if (what < 62) {
            act("advance", chance(70) ? random(4) : random(style == 2 ? 60 : 12));
        } else if (what < 72) {
            act("delete", message(), user());
        } else if (what < 78) {
            act("recover", message(), user());
        } else if (what < 84) {
            act("file", message(), user(), random(9) - (chance(5) ? 1 : 0));
        } else if (what < 90) {
            act("setHold", random(7) - (chance(5) ? 1 : 0), chance(50));
        } else if (what < 94) {
            act("setQuota", user(), chance(10) ? random(3) * 50000 : random(600));
        } else if (what < 98) {
            act("undo");
        } else if (chance(20)) {
            loadWorld(style);
        } else {
            predict();
        }
    }

    private void deliver() {
        StringBuilder content = new StringBuilder();
        int places = 1 + random(chance(95) ? 4 : 6);
        for (int i = 0; i < places; i++) {
            content.append(i == 0 ? "" : "|").append(chance(98) ? PARTS[random(PARTS.length)] : "");
            if (chance(20)) {
                content.append(random(30));
            }
            if (chance(2)) {
                content.append("y".repeat(190 + random(15)));
            }
        }
        fill(content.toString());
        int everyone = (1 << Math.max(0, spool.count(1))) - 1;
        int recipients = chance(97) ? random(1024) & everyone : random(2000) - 1000;
        int sender = chance(97) && everyone != 0 ? random(spool.count(1)) : user();
        act("deliver", sender, recipients, chance(70) ? -1 : random(9) - (chance(5) ? 2 : 0));
    }

    private void observeAll() {
        for (String name : List.of("day", "bounced", "messageCount", "storedParts", "storedBytes", "deadBytes",
                "logicalBytes", "mostShared", "nextRound", "errorCode", "errorPosition")) {
            call(name);
        }
        observeMessages();
        observeParts();
        observeUsers();
        for (int index = -1; index <= 60; index++) {
            for (int what = -1; what <= 3; what++) {
                call("event", index, what);
            }
        }
        for (int kind = 0; kind <= 11; kind++) {
            call("eventsOf", kind);
        }
        for (int hold = -1; hold <= 6; hold++) {
            call("isActive", hold);
            call("heldOnlyBy", hold);
        }
    }

    private void observeMessages() {
        for (int message = -1; message <= spool.messageCount(); message++) {
            call("readers", message);
            call("hidden", message);
            for (int i = -1; i <= 5; i++) {
                call("message", message, i);
                call("partOf", message, i);
            }
            for (int user = -1; user <= 10; user++) {
                for (String name : List.of("state", "classOf", "enteredOn", "expiresOn", "isKept", "holdsOn")) {
                    call(name, message, user);
                }
            }
        }
    }

    private void observeParts() {
        int last = 0;
        for (int index = -1; index <= spool.storedParts(); index++) {
            String part = call("storedPart", index);
            last = part.length() < 5 ? Math.max(last, Integer.parseInt(part)) : last;
        }
        for (int part = -1; part <= last + 1; part++) {
            call("digest", part);
            for (int i = -1; i <= 4; i++) {
                call("part", part, i);
                call("partByte", part, i);
            }
        }
    }

    private void observeUsers() {
        for (int user = -1; user <= 10; user++) {
            call("usage", user);
            call("quota", user);
            call("fairShare", user);
            for (int other = -1; other <= 10; other++) {
                call("inClass", user, other);
                call("commonBytes", user, other);
            }
            fill(PARTS[random(PARTS.length)]);
            call("matches", user);
            String length = call("writeMailbox", user);
            int bytes = length.length() < 5 ? Integer.parseInt(length) : 0;
            for (int index = -1; index <= bytes; index++) {
                call("outputByte", index);
            }
        }
    }

    private void predict() {
        call("emptyOn");
        for (int index = 0; index < Math.min(4, spool.storedParts()); index++) {
            call("removedOn", spool.storedPart(random(spool.storedParts())));
        }
        call("removedOn", random(400) - 1);
        for (int days : new int[] {-1, 0, 1, 2, 5, 10, 17, 40, 200, 2000, 2001}) {
            call("bytesAfter", days);
            call("goneAfter", user(), days);
        }
    }
}
