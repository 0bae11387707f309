import java.util.NoSuchElementException;

/** Promises 13 to 19: delivery, and what there is to know of a message. */
public final class DeliveryTest {
    private static final String TEXT = "spool grace 2 round 5;class a days 10;class b days 4 then a;"
            + "user u class a quota 20;user v class b quota 99999;user w class a quota 8;";

    public static void main(String[] args) {
        deliver();
        bounces();
        refusals();
        content();
        orderOfExceptions();
        mostMessages();
        fullStore();
        equalPartsCountOnce();
        usageAgainstQuota();
        bounceForAllChangesNoPart();
        message();
        readersAndHidden();
        Check.end();
    }

    private static void deliver() {
        MailSpool x = Check.loaded(TEXT);
        Check.due("13 first", Check.deliver(x, 2, 7, -1, "abc|de|abc"), 0);
        Check.refused("13 empties the buffer", IllegalArgumentException.class, () -> x.truncate(1));
        Check.due("13 class of the user", x.classOf(0, 0), 0);
        Check.due("13 class of the user", x.classOf(0, 1), 1);
        x.advance(3);
        Check.due("13 second", Check.deliver(x, 0, 2, 0, "de"), 1);
        Check.due("13 class that is told", x.classOf(1, 1), 0);
        Check.due("13 entered", x.enteredOn(1, 1), 3);
        Check.due("13 equal parts are one", x.storedParts(), 2);
        Check.due("13 stored once", x.storedBytes(), 5);
        Check.due("13 numbers of parts", x.partOf(0, 0), 0);
        Check.due("13 numbers of parts", x.partOf(0, 1), 1);
        Check.due("13 numbers of parts", x.partOf(0, 2), 0);
        Check.due("13 numbers of parts", x.partOf(1, 0), 1);
        Check.due("13 the sender gets no reference", x.readers(1), 2);
    }

    private static void bounces() {
        MailSpool x = Check.loaded(TEXT);
        Check.due("14 at first", x.bounced(), 0);
        Check.due("13 just the quota", Check.deliver(x, 0, 4, -1, "12345|678"), 0);
        Check.due("14 none", x.bounced(), 0);
        Check.due("13 one byte more", Check.deliver(x, 0, 7, -1, "a"), 1);
        Check.due("14 one", x.bounced(), 4);
        Check.due("18 without the one that bounced", x.readers(1), 3);
        Check.refused("20 no reference", NoSuchElementException.class, () -> x.state(1, 2));
        Check.due("13 bounced for all", Check.deliver(x, 0, 4, -1, "zz"), -2);
        Check.refused("13 empties the buffer", IllegalArgumentException.class, () -> x.truncate(1));
        Check.due("14 all", x.bounced(), 4);
        Check.due("15 no number is used", x.messageCount(), 2);
        Check.due("26 nothing is stored", x.storedParts(), 3);
        Check.refused("13 not now", NoSuchElementException.class, () -> x.deliver(9, 4, -1));
        Check.due("14 an exception changes nothing", x.bounced(), 4);
        Check.due("57 undo", x.undo(), 3);
        Check.due("57 undo", x.undo(), 2);
        Check.due("57 bounced before", x.bounced(), 0);
        Check.due("13 each part as often as it occurs", Check.deliver(x, 0, 1, -1, "123456|123456|12345678"), 1);
        Check.due("35 usage", x.usage(0), 20);
        Check.due("13 u is full", Check.deliver(x, 0, 3, -1, "1"), 2);
        Check.due("14 u", x.bounced(), 1);
        x.delete(1, 0);
        Check.due("13 u has room again", Check.deliver(x, 0, 1, -1, "2"), 3);
        x.load();
        Check.due("14 a failed load changes nothing", x.bounced(), 0);
    }

    private static void refused(MailSpool x, String what, Class<? extends RuntimeException> want, int sender, int set, int kind) {
        int events = x.eventCount();
        int undos = x.undoCount();
        Check.refused("13 " + what, want, () -> x.deliver(sender, set, kind));
        Check.due("13 no event: " + what, x.eventCount(), events);
        Check.due("13 nothing to undo: " + what, x.undoCount(), undos);
        Check.due("13 no message: " + what, x.messageCount(), 0);
    }

    private static void refusals() {
        MailSpool x = Check.loaded(TEXT);
        Check.fill(x, "abc");
        refused(x, "sender 3", NoSuchElementException.class, 3, 1, -1);
        refused(x, "sender -1", NoSuchElementException.class, -1, 1, -1);
        refused(x, "class 2", NoSuchElementException.class, 0, 1, 2);
        refused(x, "class -2", NoSuchElementException.class, 0, 1, -2);
        refused(x, "recipient 3", NoSuchElementException.class, 0, 8, -1);
        refused(x, "recipient 3 beside others", NoSuchElementException.class, 0, 15, -1);
        refused(x, "bit 31", NoSuchElementException.class, 0, Integer.MIN_VALUE | 1, -1);
        refused(x, "all bits", NoSuchElementException.class, 0, -1, -1);
        refused(x, "no recipient", IllegalArgumentException.class, 0, 0, -1);
        x.truncate(3);
        Check.due("13 the buffer stays", x.deliver(0, 1, -1), 0);
        MailSpool empty = new MailSpool();
        Check.fill(empty, "abc");
        refused(empty, "no users", NoSuchElementException.class, 0, 1, -1);
    }

    private static void content() {
        MailSpool x = Check.loaded(TEXT);
        String[] wrong = {"", "|", "a|", "|a", "a||b", "a|b|c|d|e", "a|b|c|d|", "||||", Check.repeat("x", 201),
                "a|" + Check.repeat("x", 201), Check.repeat("x", 1200)};
        for (String content : wrong) {
            Check.fill(x, content);
            refused(x, "content " + content, IllegalArgumentException.class, 0, 2, -1);
        }
        String longest = Check.repeat("x", 200);
        Check.due("13 four parts", Check.deliver(x, 0, 2, -1, longest + "|b|c|" + longest), 0);
        Check.due("16 size", x.message(0, 3), 402);
        Check.due("16 parts", x.message(0, 2), 4);
        Check.due("13 spaces and newlines belong to a part", Check.deliver(x, 0, 2, -1, " |\n"), 1);
        Check.due("28 size", x.part(x.partOf(1, 1), 0), 1);
        Check.due("29 byte", x.partByte(x.partOf(1, 1), 0), 10);
    }

    private static void orderOfExceptions() {
        MailSpool x = Check.loaded(TEXT);
        Check.fill(x, "||");
        refused(x, "sender before content", NoSuchElementException.class, 7, 0, -1);
        refused(x, "class before content", NoSuchElementException.class, 0, 0, 5);
        refused(x, "recipients before content", NoSuchElementException.class, 0, 16, -1);
    }

    private static void mostMessages() {
        MailSpool x = Check.loaded(TEXT);
        for (int i = 0; i < 120; i++) {
            Check.due("13 message " + i, Check.deliver(x, 0, 2, -1, "m"), i);
        }
        Check.fill(x, "m");
        Check.refused("13 message 120", IllegalStateException.class, () -> x.deliver(0, 2, -1));
        Check.refused("13 content comes first", NoSuchElementException.class, () -> x.deliver(0, 8, -1));
        Check.refused("13 recipients come first", IllegalArgumentException.class, () -> x.deliver(0, 0, -1));
        Check.fill(x, "123456789");
        Check.refused("13 even if it would bounce", IllegalStateException.class, () -> x.deliver(0, 4, -1));
        Check.due("15 count", x.messageCount(), 120);
        x.undo();
        Check.due("13 after undo", x.deliver(0, 6, -1), 119);
        Check.due("35 usage", x.usage(1), 119 + 9);
        Check.due("59 longest of all mailboxes", x.writeMailbox(1), 10 * 6 + 90 * 7 + 20 * 8);
    }

    private static void fullStore() {
        MailSpool x = Check.loaded(TEXT);
        for (int i = 0; i < 40; i += 4) {
            StringBuilder content = new StringBuilder();
            for (int k = 0; k < 4; k++) {
                content.append(k == 0 ? "" : "|").append((char) ('A' + i + k)).append(Check.repeat("z", 198));
                content.append(i + k == 39 ? "" : "z");
            }
            Check.due("13 message", Check.deliver(x, 0, 2, -1, content.toString()), i / 4);
        }
        Check.due("31 stored", x.storedBytes(), 7999);
        Check.fill(x, "ab");
        Check.refused("13 8001 bytes", IllegalStateException.class, () -> x.deliver(0, 2, -1));
        Check.fill(x, "a|b");
        Check.refused("13 8001 bytes in two parts", IllegalStateException.class, () -> x.deliver(0, 2, -1));
        Check.fill(x, "a|b|c|d|");
        Check.refused("13 content comes first", IllegalArgumentException.class, () -> x.deliver(0, 2, -1));
        Check.fill(x, "123456789012345678901");
        Check.refused("13 even if it would bounce", IllegalStateException.class, () -> x.deliver(0, 1, -1));
        Check.due("13 an equal part is not new", Check.deliver(x, 0, 2, -1, "A" + Check.repeat("z", 199)), 10);
        Check.due("13 equal new parts are one", Check.deliver(x, 0, 2, -1, "a|a|a|a"), 11);
        Check.due("31 stored", x.storedBytes(), 8000);
        for (int message = 0; message < 12; message++) {
            x.delete(message, 1);
        }
        Check.due("32 all dead", x.deadBytes(), 8000);
        Check.fill(x, "b");
        Check.refused("13 dead parts count", IllegalStateException.class, () -> x.deliver(0, 2, -1));
        Check.due("48 removed", x.advance(5), 41);
        Check.due("13 room again", Check.deliver(x, 0, 2, -1, "b"), 12);
        Check.due("13 a number of its own", x.partOf(12, 0), 41);
    }

    private static void equalPartsCountOnce() {
        MailSpool x = Check.loaded(TEXT);
        Check.deliver(x, 0, 2, -1, "ab|abc|ab|b");
        Check.due("26 three parts", x.storedParts(), 3);
        Check.due("31 six bytes", x.storedBytes(), 6);
        for (int part = 0; part < 3; part++) {
            Check.due("28 one message has it", x.part(part, 1), 1);
        }
        Check.due("35 each as often as it occurs", x.usage(1), 8);
        Check.deliver(x, 0, 2, -1, "abc|b|bc");
        int[] want = {0, 1, 0, 2};
        for (int i = 0; i < 4; i++) {
            Check.due("17 place " + i, x.partOf(0, i), want[i]);
        }
        Check.due("17 place 0", x.partOf(1, 0), 1);
        Check.due("17 place 1", x.partOf(1, 1), 2);
        Check.due("17 place 2", x.partOf(1, 2), 3);
        Check.refused("17 place 3", NoSuchElementException.class, () -> x.partOf(1, 3));
        Check.refused("17 place -1", NoSuchElementException.class, () -> x.partOf(1, -1));
        Check.refused("17 message 2", NoSuchElementException.class, () -> x.partOf(2, 0));
        Check.refused("17 message -1", NoSuchElementException.class, () -> x.partOf(-1, 0));
        x.delete(0, 1);
        x.advance(5);
        Check.due("17 a part that has been removed", x.partOf(0, 0), 0);
        Check.refused("28 it is no longer there", NoSuchElementException.class, () -> x.part(0, 0));
    }

    private static void usageAgainstQuota() {
        MailSpool x = Check.loaded("spool grace 0 round 1;class a days 3;user u class a quota 1;user v class a quota 20;hold h user v;");
        Check.due("13 a quota of one byte", Check.deliver(x, 0, 1, -1, "ab"), -2);
        Check.due("13 a quota of one byte", Check.deliver(x, 0, 1, -1, "a"), 0);
        String ten = "0123456789";
        Check.due("13 half the quota", Check.deliver(x, 0, 2, -1, ten), 1);
        Check.due("13 just the quota", Check.deliver(x, 0, 2, -1, ten), 2);
        Check.due("13 a byte more", Check.deliver(x, 0, 2, -1, "a"), -2);
        x.delete(1, 1);
        Check.due("20 hidden", x.state(1, 1), 1);
        Check.due("13 a hidden reference takes no room", Check.deliver(x, 0, 2, -1, ten), 3);
        x.recover(1, 1);
        Check.due("43 more than the quota", x.usage(1), 30);
        Check.due("13 no room", Check.deliver(x, 0, 2, -1, "a"), -2);
        x.setQuota(1, 31);
        Check.due("13 room for one byte", Check.deliver(x, 0, 2, -1, "ab"), -2);
        Check.due("13 room for one byte", Check.deliver(x, 0, 2, -1, "b"), 4);
        x.setQuota(1, 9);
        x.advance(3);
        Check.due("35 all have expired", x.usage(1), 0);
        Check.due("13 more than a quota that was made less", Check.deliver(x, 0, 2, -1, ten), -2);
        Check.due("13 each part as often as it occurs", Check.deliver(x, 0, 2, -1, "abc|abc|abc|a"), -2);
        Check.due("13 just the quota", Check.deliver(x, 0, 2, -1, "abc|abc|abc"), 5);
    }

    private static void bounceForAllChangesNoPart() {
        MailSpool x = Check.loaded("spool grace 1 round 1;class a days 3;user u class a quota 3;user v class a quota 2;");
        Check.deliver(x, 0, 1, -1, "abc");
        x.delete(0, 0);
        Check.due("32 dead", x.deadBytes(), 3);
        Check.due("13 bounces", Check.deliver(x, 0, 2, -1, "abc"), -2);
        Check.due("28 still dead", x.part(0, 2), 0);
        Check.due("28 of no message", x.part(0, 1), 0);
        Check.due("54 no event of the part", Check.eventsFrom(x, 3), "0:2:1");
        Check.due("13 new parts of a message that bounces", Check.deliver(x, 0, 3, -1, "wxyz|abc"), -2);
        Check.due("26 are not stored", x.storedParts(), 1);
        Check.due("54 no event of the part", Check.eventsFrom(x, 4), "0:2:0 0:2:1");
        x.advance(1);
        Check.due("26 removed", x.storedParts(), 0);
        Check.due("13 the number of the message is not used", Check.deliver(x, 0, 1, -1, "abc"), 1);
        Check.due("17 the number of the removed part is not used again", x.partOf(1, 0), 1);
    }

    private static void message() {
        MailSpool x = Check.loaded(TEXT);
        x.advance(4);
        Check.deliver(x, 1, 5, -1, "abc|d");
        int[] want = {1, 4, 2, 4, 1};
        for (int what = 0; what < want.length; what++) {
            Check.due("16 value " + what, x.message(0, what), want[what]);
        }
        Check.refused("16 value 5", IllegalArgumentException.class, () -> x.message(0, 5));
        Check.refused("16 value -1", IllegalArgumentException.class, () -> x.message(0, -1));
        Check.refused("16 message 1", NoSuchElementException.class, () -> x.message(1, 0));
        Check.refused("16 message -1, first of two", NoSuchElementException.class, () -> x.message(-1, 9));
        x.delete(0, 0);
        Check.due("16 still kept", x.message(0, 4), 1);
        x.delete(0, 2);
        Check.due("16 not kept", x.message(0, 4), 0);
        Check.due("16 size stays", x.message(0, 3), 4);
        Check.due("15 count stays", x.messageCount(), 1);
    }

    private static void readersAndHidden() {
        MailSpool x = Check.loaded(TEXT + "hold h user u;");
        Check.deliver(x, 0, 7, -1, "abc");
        Check.due("18 all", x.readers(0), 7);
        Check.due("19 none", x.hidden(0), 0);
        x.delete(0, 0);
        x.delete(0, 1);
        Check.due("18 one", x.readers(0), 4);
        Check.due("19 one", x.hidden(0), 1);
        Check.due("16 kept", x.message(0, 4), 1);
        x.delete(0, 2);
        Check.due("16 kept by the hidden one", x.message(0, 4), 1);
        Check.due("28 part kept", x.part(0, 2), -1);
        Check.refused("18 message 1", NoSuchElementException.class, () -> x.readers(1));
        Check.refused("18 message -1", NoSuchElementException.class, () -> x.readers(-1));
        Check.refused("19 message 1", NoSuchElementException.class, () -> x.hidden(1));
        Check.refused("19 message -1", NoSuchElementException.class, () -> x.hidden(-1));
    }
}
