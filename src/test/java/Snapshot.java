import java.lang.reflect.InvocationTargetException;
import java.lang.reflect.Method;

/** What a spool answers to everything that can be asked, as a text, so that two spools or two moments compare. */
final class Snapshot {
    private final MailSpool spool;
    private final StringBuilder all = new StringBuilder();

    private Snapshot(MailSpool spool) {
        this.spool = spool;
    }

    /** All that undo() restores. */
    static String state(MailSpool spool) {
        Snapshot shot = new Snapshot(spool);
        shot.rules();
        shot.messages();
        shot.parts();
        shot.users();
        shot.days();
        shot.ask("event", -1, 61, -1, 4);
        shot.ask("eventsOf", 0, 12);
        return shot.all.toString();
    }

    /** All but the input buffer, into which no call looks without emptying it. */
    static String whole(MailSpool spool) {
        Snapshot shot = new Snapshot(spool);
        shot.all.append(state(spool));
        shot.ask("errorCode");
        shot.ask("errorPosition");
        shot.ask("undoCount");
        shot.ask("outputByte", -1, 2050);
        return shot.all.toString();
    }

    private void rules() {
        ask("count", -1, 5);
        ask("members", -1, 7);
        ask("retention", -1, 9, -1, 4);
        ask("ladderDays", -1, 9);
        ask("nextRound");
        ask("isActive", -1, 7);
        ask("heldOnlyBy", -1, 7);
    }

    private void messages() {
        ask("bounced");
        ask("messageCount");
        int end = spool.messageCount() + 1;
        ask("message", -1, end, -1, 6);
        ask("partOf", -1, end, -1, 5);
        for (String name : new String[] {"readers", "hidden"}) {
            ask(name, -1, end);
        }
        for (String name : new String[] {"state", "classOf", "enteredOn", "expiresOn", "isKept", "holdsOn"}) {
            ask(name, -1, end, -1, 11);
        }
    }

    private void parts() {
        for (String name : new String[] {"storedParts", "storedBytes", "deadBytes", "logicalBytes", "mostShared"}) {
            ask(name);
        }
        int stored = spool.storedParts();
        ask("storedPart", -1, stored + 1);
        int end = stored == 0 ? 2 : spool.storedPart(stored - 1) + 2;
        ask("part", -1, end, -1, 5);
        ask("digest", -1, end);
        ask("removedOn", -1, end);
    }

    private void users() {
        for (String name : new String[] {"usage", "quota", "fairShare"}) {
            ask(name, -1, 11);
        }
        ask("inClass", -1, 11, -1, 9);
        ask("commonBytes", -1, 11, -1, 11);
    }

    private void days() {
        ask("day");
        ask("emptyOn");
        ask("eventCount");
        for (int days : new int[] {-1, 0, 1, 2, 3, 5, 8, 13, 200, 2000, 2001}) {
            ask("bytesAfter", days, days + 1);
            ask("goneAfter", -1, 4, days, days + 1);
        }
    }

    /** Calls a method with each number, or pair of numbers, of the ranges. */
    private void ask(String name, int... ranges) {
        all.append('\n').append(name);
        Method method = methodOf(name);
        if (ranges.length == 0) {
            answer(method);
        } else {
            for (int first = ranges[0]; first < ranges[1]; first++) {
                if (ranges.length == 2) {
                    answer(method, first);
                } else {
                    for (int second = ranges[2]; second < ranges[3]; second++) {
                        answer(method, first, second);
                    }
                }
            }
        }
    }

    private static Method methodOf(String name) {
        for (Method method : MailSpool.class.getMethods()) {
            if (method.getName().equals(name)) {
                return method;
            }
        }
        throw new IllegalStateException(name);
    }

    private void answer(Method method, Object... values) {
        all.append(' ');
        try {
            all.append(method.invoke(spool, values));
        } catch (InvocationTargetException e) {
            all.append(e.getCause().getClass().getSimpleName());
        } catch (IllegalAccessException e) {
            all.append("no access");
        }
    }
}
