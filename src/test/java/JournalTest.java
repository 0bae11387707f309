import java.util.NoSuchElementException;

/** Promises 54 to 58: the journal and undo. */
public final class JournalTest {
    private static final String TEXT = "spool grace 1 round 2;class a days 2;class b days 1 then a;"
            + "user u class a quota 9;user v class b quota 9;user w class a quota 5;hold h user w;";

    public static void main(String[] args) {
        deliveries();
        days();
        partsOfAReference();
        latestSixty();
        event();
        eventsOf();
        undo();
        latestSix();
        undoRestoresEverything();
        undoRestoresRows();
        undoLeavesBuffers();
        callsThatChangeNothing();
        Check.end();
    }

    private static void deliveries() {
        MailSpool x = Check.loaded(TEXT);
        Check.due("54 none", x.eventCount(), 0);
        Check.deliver(x, 0, 1, -1, "a|b|c");
        x.delete(0, 0);
        Check.due("54 parts in ascending order", Check.events(x), "0:1:0 0:4:0 0:6:0 0:6:1 0:6:2");
        Check.deliver(x, 0, 7, -1, "c|d|a|a|".substring(0, 7));
        Check.due("54 kept again by places, then delivered", Check.eventsFrom(x, 5), "0:7:2 0:7:0 0:1:1");
        Check.deliver(x, 0, 7, -1, "bbb");
        Check.due("54 first the bounce", Check.eventsFrom(x, 8), "0:2:2 0:1:2");
        Check.deliver(x, 0, 7, -1, "bbb");
        Check.due("54 bounces by users, no delivery", Check.eventsFrom(x, 10), "0:2:0 0:2:1 0:2:2");
        Check.deliver(x, 0, 7, -1, "b");
        Check.due("54 bounce, kept again, delivered", Check.eventsFrom(x, 13), "0:7:1 0:1:3");
    }

    private static void days() {
        MailSpool x = Check.loaded(TEXT);
        Check.deliver(x, 0, 7, -1, "b|a");
        Check.deliver(x, 0, 2, -1, "a");
        x.advance(4);
        Check.due("54 days", Check.eventsFrom(x, 2), "1:3:0 1:3:1 1:10:1"
                + " 2:4:0 2:5:0 2:9:0 2:10:2"
                + " 3:4:0 3:4:1 3:10:3"
                + " 4:9:0 4:10:4");
        x.setHold(0, false);
        Check.due("54 released", Check.eventsFrom(x, 14), "4:4:0 4:6:0 4:6:1");
        x.advance(2);
        Check.due("54 removed", Check.eventsFrom(x, 17), "5:10:5 6:8:0 6:8:1 6:9:2 6:10:6");
    }

    private static void partsOfAReference() {
        MailSpool x = Check.loaded("spool grace 0 round 1;class a days 1;user u class a quota 99;user v class a quota 99;");
        Check.deliver(x, 0, 3, -1, "z|y");
        Check.deliver(x, 0, 2, -1, "x|y|z|w");
        Check.deliver(x, 0, 1, -1, "w");
        x.advance(1);
        Check.due("54 dead parts follow the reference by which they are dead", Check.eventsFrom(x, 3),
                "1:4:0 1:4:0 1:4:1 1:6:0 1:6:1 1:6:2 1:4:2 1:6:3 1:8:0 1:8:1 1:8:2 1:8:3 1:9:4 1:10:1");
    }

    private static void latestSixty() {
        MailSpool x = new MailSpool();
        x.advance(30);
        Check.due("54 sixty", x.eventCount(), 60);
        Check.due("55 oldest", x.event(0, 0), 1);
        x.advance(1);
        Check.due("54 still sixty", x.eventCount(), 60);
        Check.due("55 oldest", x.event(0, 0), 2);
        Check.due("55 its kind", x.event(0, 1), 9);
        Check.due("55 newest", x.event(59, 2), 31);
        x.advance(1000);
        Check.due("55 oldest", x.event(0, 0), 1002);
        Check.due("55 newest", x.event(59, 2), 1031);
        x.undo();
        Check.due("57 oldest", x.event(0, 0), 2);
        Check.due("57 newest", x.event(59, 2), 31);
        x.undo();
        x.undo();
        Check.due("57 none", x.eventCount(), 0);
    }

    private static void event() {
        MailSpool x = Check.loaded(TEXT);
        x.advance(3);
        int[][] want = {{1, 10, 1}, {2, 9, 0}, {2, 10, 2}, {3, 10, 3}};
        Check.due("54 count", x.eventCount(), 4);
        for (int index = 0; index < 4; index++) {
            for (int what = 0; what < 3; what++) {
                Check.due("55 event " + index + " value " + what, x.event(index, what), want[index][what]);
            }
        }
        Check.refused("55 event 4", NoSuchElementException.class, () -> x.event(4, 0));
        Check.refused("55 event -1, first of two", NoSuchElementException.class, () -> x.event(-1, 3));
        Check.refused("55 value 3", IllegalArgumentException.class, () -> x.event(0, 3));
        Check.refused("55 value -1", IllegalArgumentException.class, () -> x.event(0, -1));
    }

    private static void eventsOf() {
        MailSpool x = Check.loaded(TEXT);
        Check.deliver(x, 0, 7, -1, "b|a");
        Check.deliver(x, 0, 7, -1, "b|aab");
        x.delete(1, 0);
        x.delete(1, 1);
        Check.deliver(x, 0, 1, -1, "aab");
        x.advance(4);
        x.setHold(0, false);
        x.advance(2);
        int[] want = {3, 1, 1, 6, 1, 4, 1, 3, 3, 6};
        for (int kind = 1; kind <= 10; kind++) {
            Check.due("56 kind " + kind, x.eventsOf(kind), want[kind - 1]);
        }
        Check.refused("56 kind 0", IllegalArgumentException.class, () -> x.eventsOf(0));
        Check.refused("56 kind 11", IllegalArgumentException.class, () -> x.eventsOf(11));
        Check.refused("56 kind -1", IllegalArgumentException.class, () -> x.eventsOf(-1));
    }

    private static void undo() {
        MailSpool x = new MailSpool();
        Check.due("58 nothing", x.undoCount(), 0);
        Check.refused("57 nothing", IllegalStateException.class, x::undo);
        Check.load(x, TEXT);
        Check.deliver(x, 0, 1, -1, "a");
        x.advance(1);
        Check.due("58 three", x.undoCount(), 3);
        Check.due("57 advance", x.undo(), 2);
        Check.due("12 day", x.day(), 0);
        Check.due("54 events", Check.events(x), "0:1:0");
        Check.due("57 delivery", x.undo(), 1);
        Check.due("15 messages", x.messageCount(), 0);
        Check.due("26 parts", x.storedParts(), 0);
        Check.due("57 load", x.undo(), 0);
        Check.due("8 users", x.count(1), 0);
        Check.due("49 interval", x.nextRound(), 1);
        Check.refused("57 nothing", IllegalStateException.class, x::undo);
        Check.due("58 nothing", x.undoCount(), 0);
    }

    private static void latestSix() {
        MailSpool x = Check.loaded(TEXT);
        for (int i = 0; i < 9; i++) {
            x.advance(1);
            Check.due("58 at most six", x.undoCount(), Math.min(6, i + 2));
        }
        for (int left = 5; left >= 0; left--) {
            Check.due("57 left", x.undo(), left);
            Check.due("12 day", x.day(), 3 + left);
        }
        Check.refused("57 forgotten", IllegalStateException.class, x::undo);
        x.advance(7);
        Check.due("58 again", x.undoCount(), 1);
        x.undo();
        Check.due("12 day", x.day(), 3);
    }

    private static void undoRestoresEverything() {
        MailSpool x = Check.loaded(TEXT);
        Check.deliver(x, 0, 7, -1, "abc");
        Check.deliver(x, 0, 7, -1, "def");
        x.delete(0, 2);
        x.advance(2);
        x.setHold(0, false);
        x.undo();
        Check.due("14 bounced", x.bounced(), 4);
        Check.due("44 active", x.isActive(0), true);
        Check.due("20 hidden", x.state(0, 2), 1);
        x.undo();
        Check.due("12 day", x.day(), 0);
        Check.due("20 live", x.state(0, 0), 0);
        Check.due("21 class", x.classOf(0, 1), 1);
        x.undo();
        Check.due("20 live", x.state(0, 2), 0);
        x.undo();
        Check.due("14 bounced", x.bounced(), 0);
        Check.due("13 the number is free again", Check.deliver(x, 1, 1, -1, "xyz"), 1);
        Check.due("17 the part's number too", x.partOf(1, 0), 1);
        Check.due("29 other bytes", x.partByte(1, 0), 'x');
        Check.due("16 other sender", x.message(1, 0), 1);
        Check.refused("20 other recipients", NoSuchElementException.class, () -> x.state(1, 1));
    }

    private static void undoRestoresRows() {
        MailSpool x = new MailSpool();
        x.advance(2);
        Check.load(x, TEXT);
        Check.deliver(x, 0, 1, -1, "x");
        Check.deliver(x, 0, 1, -1, "a|b");
        Check.deliver(x, 0, 1, -1, "a");
        Check.due("28 two messages", x.part(1, 1), 2);
        x.undo();
        Check.due("57 one message", x.part(1, 1), 1);
        Check.load(x, TEXT);
        x.advance(1);
        Check.deliver(x, 1, 2, -1, "p|qq");
        Check.due("28 first message", x.part(1, 3), 0);
        x.undo();
        x.undo();
        x.undo();
        Check.due("57 first message", x.part(1, 3), 1);
        Check.due("57 bytes", x.partByte(1, 0), 'a');
        Check.due("57 size", x.part(1, 0), 1);
        Check.due("57 events", Check.events(x), "0:1:0 0:1:1");
        Check.due("57 sender", x.message(0, 0), 0);
        Check.due("57 class", x.classOf(0, 0), 0);
        x.undo();
        x.undo();
        x.undo();
        Check.due("57 events before the first load", Check.events(x), "1:9:0 1:10:1 2:9:0 2:10:2");
    }

    private static void undoLeavesBuffers() {
        MailSpool x = Check.loaded(TEXT);
        Check.deliver(x, 0, 1, -1, "abc");
        Check.due("59 length", x.writeMailbox(0), 6);
        Check.fill(x, "a|b");
        x.undo();
        Check.due("57 output stays", x.outputByte(5), '\n');
        Check.due("57 input stays", x.deliver(0, 1, -1), 0);
        Check.fill(x, "nonsense");
        x.load();
        x.undo();
        Check.due("57 code stays", x.errorCode(), 1);
        Check.due("57 position stays", x.errorPosition(), 0);
        Check.refused("57 input is not given back", IllegalArgumentException.class, () -> x.truncate(1));
    }

    private static void callsThatChangeNothing() {
        MailSpool x = Check.loaded(TEXT);
        Check.deliver(x, 0, 1, -1, "abc");
        x.setHold(0, true);
        x.setQuota(0, 9);
        x.file(0, 0, 0);
        x.writeMailbox(0);
        x.find(0);
        Check.refused("42", NoSuchElementException.class, () -> x.delete(0, 1));
        Check.refused("43", IllegalStateException.class, () -> x.recover(0, 0));
        Check.refused("48", IllegalArgumentException.class, () -> x.advance(0));
        Check.due("58 load and delivery", x.undoCount(), 2);
        Check.due("13 bounces for all", Check.deliver(x, 0, 1, -1, "abcdefg"), -2);
        Check.due("58 an event counts", x.undoCount(), 3);
        x.undo();
        Check.due("54 no bounce", x.eventCount(), 1);
        Check.due("14 no bounce", x.bounced(), 0);
    }
}
