import java.util.NoSuchElementException;

/** Promises 20 to 25 and 41 to 43: references, and what is done with them. */
public final class ReferenceTest {
    private static final String TEXT = "spool grace 2 round 5;class a days 10;class b days 4 keep 2 then a;"
            + "class c days forever;class d days 3 then c;user u class b quota 99;user v class a quota 99;"
            + "hold h user u from 0 to 3 word tax;hold i user u from 2 to 9;hold j user v word taxes;";

    public static void main(String[] args) {
        states();
        goneOnes();
        noReference();
        classesAndDays();
        expiresOn();
        isKept();
        holdsOn();
        holdsOnOldMessages();
        file();
        delete();
        recover();
        otherUser();
        Check.end();
    }

    private static void states() {
        MailSpool x = Check.loaded(TEXT);
        Check.deliver(x, 0, 3, 0, "tax");
        Check.deliver(x, 0, 3, 0, "tax");
        Check.due("20 live", x.state(0, 0), 0);
        x.delete(0, 0);
        x.delete(0, 1);
        Check.due("20 hidden after it was deleted", x.state(0, 0), 1);
        Check.due("20 gone", x.state(0, 1), 3);
        x.advance(10);
        Check.due("20 hidden after it expired", x.state(1, 0), 2);
        Check.due("20 gone", x.state(1, 1), 3);
        Check.due("21 last class", x.classOf(1, 0), 0);
        Check.due("22 last day", x.enteredOn(1, 0), 0);
        Check.due("23 not live", x.expiresOn(1, 0), -1);
        Check.due("24 not live", x.isKept(1, 0), false);
        Check.due("25 whatever its state", x.holdsOn(1, 0), 1);
    }

    /** A reference that is gone still counts as one, with its last class and day. */
    private static void goneOnes() {
        MailSpool x = Check.loaded(TEXT);
        Check.deliver(x, 0, 2, 3, "taxes");
        Check.deliver(x, 0, 2, 0, "b");
        x.advance(4);
        x.setHold(2, false);
        x.delete(0, 1);
        Check.due("20 gone", x.state(0, 1), 3);
        Check.due("21 the class that it had moved into", x.classOf(0, 1), 2);
        Check.due("22 the day on which it moved", x.enteredOn(0, 1), 3);
        Check.due("23 not live", x.expiresOn(0, 1), -1);
        Check.due("24 not live", x.isKept(0, 1), false);
        Check.due("25 no active hold", x.holdsOn(0, 1), 0);
        x.setHold(2, true);
        Check.due("25 an active one", x.holdsOn(0, 1), 4);
        Check.refused("41 gone", IllegalStateException.class, () -> x.file(0, 1, 0));
        Check.refused("42 gone", IllegalStateException.class, () -> x.delete(0, 1));
        Check.refused("43 gone", IllegalStateException.class, () -> x.recover(0, 1));
        x.advance(6);
        Check.due("20 expired", x.state(1, 1), 3);
        Check.due("21 the last of the ladder", x.classOf(1, 1), 0);
        Check.due("22 its day", x.enteredOn(1, 1), 0);
    }

    private static void refusedFor(MailSpool x, int message, int user) {
        Class<? extends RuntimeException> want = NoSuchElementException.class;
        String at = " of " + message + ", " + user;
        Check.refused("20" + at, want, () -> x.state(message, user));
        Check.refused("21" + at, want, () -> x.classOf(message, user));
        Check.refused("22" + at, want, () -> x.enteredOn(message, user));
        Check.refused("23" + at, want, () -> x.expiresOn(message, user));
        Check.refused("24" + at, want, () -> x.isKept(message, user));
        Check.refused("25" + at, want, () -> x.holdsOn(message, user));
        Check.refused("41" + at, want, () -> x.file(message, user, 0));
        Check.refused("42" + at, want, () -> x.delete(message, user));
        Check.refused("43" + at, want, () -> x.recover(message, user));
    }

    private static void noReference() {
        MailSpool x = Check.loaded(TEXT);
        Check.deliver(x, 0, 1, -1, "tax");
        Check.deliver(x, 0, 2, -1, "tax");
        refusedFor(x, 0, 1);
        refusedFor(x, 1, 0);
        refusedFor(x, 2, 0);
        refusedFor(x, -1, 0);
        refusedFor(x, 0, 2);
        refusedFor(x, 0, -1);
        refusedFor(x, 0, 10);
        refusedFor(x, 1, -10);
        refusedFor(x, Integer.MAX_VALUE, 0);
        refusedFor(x, 0, Integer.MIN_VALUE);
        Check.due("20 user 0 has the first", x.state(0, 0), 0);
    }

    private static void classesAndDays() {
        MailSpool x = Check.loaded(TEXT);
        x.advance(2);
        Check.deliver(x, 0, 1, -1, "m");
        Check.deliver(x, 0, 1, 3, "n");
        Check.deliver(x, 0, 1, -1, "o");
        Check.deliver(x, 0, 1, -1, "p");
        Check.due("21 class", x.classOf(0, 0), 1);
        Check.due("22 day", x.enteredOn(0, 0), 2);
        x.advance(3);
        Check.due("21 left for the next", x.classOf(1, 0), 2);
        Check.due("22 on that day", x.enteredOn(1, 0), 5);
        Check.due("21 not yet", x.classOf(0, 0), 1);
        x.advance(1);
        Check.due("21 left", x.classOf(0, 0), 0);
        Check.due("22 entered", x.enteredOn(0, 0), 6);
        Check.due("21 kept", x.classOf(2, 0), 1);
        Check.due("22 entered", x.enteredOn(2, 0), 2);
        x.advance(9);
        Check.due("20 live up to the last day", x.state(0, 0), 0);
        x.advance(1);
        Check.due("20 expired", x.state(0, 0), 2);
    }

    private static void expiresOn() {
        MailSpool x = Check.loaded(TEXT);
        Check.deliver(x, 0, 1, -1, "m");
        Check.due("23 by the ladder", x.expiresOn(0, 0), 14);
        Check.deliver(x, 0, 1, 2, "m");
        Check.due("23 forever", x.expiresOn(1, 0), -1);
        Check.deliver(x, 0, 1, 3, "m");
        Check.due("23 forever on the way", x.expiresOn(2, 0), -1);
        x.advance(3);
        Check.due("23 not overdue yet", x.expiresOn(0, 0), 14);
        x.advance(1);
        Check.due("23 kept on the day on which it was due", x.expiresOn(0, 0), 15);
        x.advance(20);
        Check.due("23 overdue: it could leave tomorrow", x.expiresOn(0, 0), 35);
        Check.due("20 still live", x.state(0, 0), 0);
        Check.deliver(x, 0, 1, 0, "m");
        Check.due("23 last class", x.expiresOn(3, 0), 34);
        x.delete(3, 0);
        Check.due("23 not live", x.expiresOn(3, 0), -1);
    }

    private static void isKept() {
        MailSpool x = Check.loaded(TEXT);
        for (int i = 0; i < 4; i++) {
            Check.deliver(x, 0, 3, -1, "m");
        }
        boolean[] want = {false, false, true, true};
        for (int message = 0; message < 4; message++) {
            Check.due("24 message " + message, x.isKept(message, 0), want[message]);
            Check.due("24 a class that keeps none", x.isKept(message, 1), false);
        }
        x.delete(3, 0);
        Check.due("24 the next one", x.isKept(1, 0), true);
        Check.due("24 not live", x.isKept(3, 0), false);
        x.file(2, 0, 0);
        Check.due("24 the next one", x.isKept(0, 0), true);
        Check.due("24 filed elsewhere", x.isKept(2, 0), false);
        x.advance(100);
        Check.due("24 kept", x.state(0, 0), 0);
        Check.due("24 kept", x.state(1, 0), 0);
        Check.deliver(x, 0, 1, -1, "m");
        Check.due("24 pushed out", x.isKept(0, 0), false);
        x.advance(1);
        Check.due("24 left", x.classOf(0, 0), 0);
        Check.due("22 left", x.enteredOn(0, 0), 101);
    }

    private static void holdsOn() {
        MailSpool x = Check.loaded(TEXT);
        Check.deliver(x, 0, 3, 2, "x|a tax,b|taxes");
        Check.deliver(x, 0, 3, 2, "atax|taxa|TAX|ta x");
        x.advance(2);
        Check.deliver(x, 0, 3, 2, "1tax2");
        x.advance(1);
        Check.deliver(x, 0, 3, 2, "tax");
        x.advance(1);
        Check.deliver(x, 0, 3, 2, "tax");
        x.advance(5);
        Check.deliver(x, 0, 3, 2, "tax");
        x.advance(1);
        Check.deliver(x, 0, 3, 2, "tax|abctaxes|taxes ");
        int[] ofU = {1, 0, 3, 3, 2, 2, 0};
        int[] ofV = {4, 0, 0, 0, 0, 0, 4};
        for (int message = 0; message < 7; message++) {
            Check.due("25 message " + message, x.holdsOn(message, 0), ofU[message]);
            Check.due("25 message " + message, x.holdsOn(message, 1), ofV[message]);
        }
        x.setHold(0, false);
        Check.due("25 active ones only", x.holdsOn(2, 0), 2);
        x.setHold(0, true);
        Check.due("25 active again", x.holdsOn(2, 0), 3);
    }

    private static void holdsOnOldMessages() {
        MailSpool x = Check.loaded(TEXT);
        Check.deliver(x, 0, 2, 2, "tax|taxes");
        x.setHold(2, false);
        x.delete(0, 1);
        x.advance(5);
        Check.due("26 removed", x.storedParts(), 0);
        x.setHold(2, true);
        Check.due("25 also when its parts have been removed", x.holdsOn(0, 1), 4);
    }

    private static void file() {
        MailSpool x = Check.loaded(TEXT);
        Check.deliver(x, 0, 3, -1, "m");
        Check.deliver(x, 0, 3, -1, "n");
        x.advance(2);
        int undos = x.undoCount();
        int events = x.eventCount();
        Check.due("41 previous", x.file(0, 0, 3), 1);
        Check.due("41 class", x.classOf(0, 0), 3);
        Check.due("41 entered", x.enteredOn(0, 0), 2);
        Check.due("41 only this user", x.classOf(0, 1), 0);
        Check.due("41 no event", x.eventCount(), events);
        Check.due("57 can be undone", x.undoCount(), undos + 1);
        Check.due("41 the same again", x.file(0, 0, 3), 3);
        Check.due("57 nothing changed", x.undoCount(), undos + 1);
        Check.due("41 same class, other day", x.file(1, 0, 1), 1);
        Check.due("41 entered", x.enteredOn(1, 0), 2);
        Check.due("57 changed", x.undoCount(), undos + 2);
        Check.refused("41 class 4", NoSuchElementException.class, () -> x.file(0, 0, 4));
        Check.refused("41 class -1", NoSuchElementException.class, () -> x.file(0, 0, -1));
        x.delete(0, 0);
        x.delete(0, 1);
        Check.refused("41 gone", IllegalStateException.class, () -> x.file(0, 1, 0));
        Check.refused("41 hidden", IllegalStateException.class, () -> deletedUnderHold().file(0, 0, 0));
        Check.refused("41 class 4, first of two", NoSuchElementException.class, () -> x.file(0, 1, 4));
        x.undo();
        x.undo();
        x.undo();
        Check.due("57 entered before", x.enteredOn(1, 0), 0);
    }

    private static MailSpool deletedUnderHold() {
        MailSpool x = Check.loaded(TEXT);
        Check.deliver(x, 0, 3, -1, "tax");
        x.delete(0, 0);
        Check.due("42 hidden", x.state(0, 0), 1);
        return x;
    }

    private static void delete() {
        MailSpool x = Check.loaded(TEXT);
        Check.deliver(x, 0, 3, -1, "tax|m");
        Check.due("42 hidden", x.delete(0, 0), 1);
        Check.due("35 usage", x.usage(0), 0);
        Check.due("42 gone", x.delete(0, 1), 3);
        Check.due("28 kept by the hidden one", x.part(1, 2), -1);
        Check.refused("42 hidden", IllegalStateException.class, () -> x.delete(0, 0));
        Check.refused("42 gone", IllegalStateException.class, () -> x.delete(0, 1));
        Check.due("58 undo", x.undoCount(), 4);
        x.undo();
        x.undo();
        Check.due("57 live again", x.readers(0), 3);
        x.setHold(0, false);
        Check.due("42 no active hold", x.delete(0, 0), 3);
        Check.due("42 last one", x.delete(0, 1), 3);
        Check.due("28 dead", x.part(1, 2), 0);
        Check.due("32 dead", x.deadBytes(), 4);
    }

    private static void recover() {
        MailSpool x = deletedUnderHold();
        Check.deliver(x, 0, 1, 0, "tax");
        x.advance(10);
        Check.due("20 expired", x.state(1, 0), 2);
        Check.refused("43 gone", IllegalStateException.class, () -> x.recover(0, 1));
        x.undo();
        x.setQuota(0, 1);
        x.advance(10);
        Check.due("20 expired", x.state(1, 0), 2);
        int events = x.eventCount();
        Check.due("43 deleted", x.recover(0, 0), 1);
        Check.due("43 expired", x.recover(1, 0), 2);
        Check.due("43 live", x.readers(0), 1);
        Check.due("43 the quota does not matter", x.usage(0), 6);
        Check.due("43 last class", x.classOf(0, 0), 1);
        Check.due("43 entered today", x.enteredOn(0, 0), 10);
        Check.due("43 last class", x.classOf(1, 0), 0);
        Check.due("43 entered today", x.enteredOn(1, 0), 10);
        Check.due("43 no event", x.eventCount(), events);
        Check.refused("43 live", IllegalStateException.class, () -> x.recover(0, 0));
        x.undo();
        Check.due("57 hidden again", x.state(1, 0), 2);
        Check.due("57 entered", x.enteredOn(1, 0), 0);
        Check.due("57 only the second one", x.readers(0), 1);
        x.undo();
        Check.due("57 hidden again", x.state(0, 0), 1);
        Check.due("57 day", x.day(), 10);
    }

    /** The second user's references, among those of others. */
    private static void otherUser() {
        MailSpool x = Check.loaded(TEXT);
        Check.deliver(x, 0, 1, -1, "one");
        x.advance(3);
        Check.deliver(x, 0, 3, -1, "taxes");
        Check.deliver(x, 0, 2, -1, "taxes");
        x.advance(2);
        Check.deliver(x, 0, 3, -1, "more");
        Check.due("23 v", x.expiresOn(1, 1), 13);
        Check.due("23 v", x.expiresOn(3, 1), 15);
        x.undo();
        x.undo();
        Check.due("12 day", x.day(), 3);
        Check.due("41 v, nothing changes", x.file(1, 1, 0), 0);
        Check.due("58 nothing changed", x.undoCount(), 4);
        x.advance(2);
        Check.due("42 v", x.delete(2, 1), 1);
        x.advance(1);
        Check.due("43 v", x.recover(2, 1), 1);
        Check.due("20 v", x.state(2, 1), 0);
        Check.due("22 v", x.enteredOn(2, 1), 6);
        Check.due("22 another message", x.enteredOn(1, 1), 3);
        Check.due("41 v", x.file(1, 1, 1), 0);
        Check.due("21 v", x.classOf(1, 1), 1);
        Check.due("21 u", x.classOf(1, 0), 1);
        Check.due("22 v", x.enteredOn(1, 1), 6);
        Check.due("22 u", x.enteredOn(1, 0), 3);
    }
}
