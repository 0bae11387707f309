import java.util.NoSuchElementException;

/** Promises 44 to 46: holds. */
public final class HoldTest {
    private static final String TEXT = "spool grace 0 round 9;class a days 2;"
            + "user u class a quota 99;user v class a quota 99;hold h user u;hold i user u word tax;hold j user v;";

    public static void main(String[] args) {
        activeOnes();
        release();
        onlyBy();
        releaseOfExpiredOnes();
        wordsOfHolds();
        activeOnTheDayOfTheEnd();
        Check.end();
    }

    private static void activeOnes() {
        MailSpool x = Check.loaded(TEXT);
        for (int hold = 0; hold < 3; hold++) {
            Check.due("44 active at first", x.isActive(hold), true);
        }
        Check.due("45 already active", x.setHold(1, true), 0);
        Check.due("58 nothing changed", x.undoCount(), 1);
        Check.due("45 release", x.setHold(1, false), 0);
        Check.due("58 changed", x.undoCount(), 2);
        Check.due("44 released", x.isActive(1), false);
        Check.due("44 others", x.isActive(0), true);
        Check.due("44 others", x.isActive(2), true);
        Check.due("45 already released", x.setHold(1, false), 0);
        Check.due("58 nothing changed", x.undoCount(), 2);
        Check.due("45 active again", x.setHold(1, true), 0);
        Check.due("44 active again", x.isActive(1), true);
        Check.due("58 changed", x.undoCount(), 3);
        Check.due("45 no event of its own", x.eventCount(), 0);
        for (int hold : new int[] {3, -1, 6, 32, Integer.MIN_VALUE}) {
            Check.refused("44 hold " + hold, NoSuchElementException.class, () -> x.isActive(hold));
            Check.refused("45 hold " + hold, NoSuchElementException.class, () -> x.setHold(hold, true));
            Check.refused("45 hold " + hold, NoSuchElementException.class, () -> x.setHold(hold, false));
            Check.refused("46 hold " + hold, NoSuchElementException.class, () -> x.heldOnlyBy(hold));
        }
    }

    private static void release() {
        MailSpool x = Check.loaded(TEXT);
        Check.deliver(x, 0, 3, -1, "tax");
        Check.deliver(x, 0, 1, -1, "b|a|b");
        Check.deliver(x, 0, 1, -1, "c");
        x.delete(0, 0);
        x.delete(1, 0);
        int events = x.eventCount();
        Check.due("45 gone", x.setHold(0, false), 1);
        Check.due("20 still held by the word", x.state(0, 0), 1);
        Check.due("20 gone", x.state(1, 0), 3);
        Check.due("20 live ones stay", x.state(2, 0), 0);
        Check.due("54 events", Check.eventsFrom(x, events), "0:4:1 0:6:1 0:6:2");
        Check.due("45 brings nothing back", x.setHold(0, true), 0);
        Check.due("20 gone", x.state(1, 0), 3);
        Check.due("45 still held by the other", x.setHold(1, false), 0);
        Check.due("20 hidden", x.state(0, 0), 1);
        events = x.eventCount();
        Check.due("45 gone", x.setHold(0, false), 1);
        Check.due("54 the message is kept by v", Check.eventsFrom(x, events), "0:4:0");
        x.undo();
        Check.due("57 active again", x.isActive(0), true);
        Check.due("57 hidden again", x.state(0, 0), 1);
    }

    private static void onlyBy() {
        MailSpool x = Check.loaded(TEXT);
        Check.deliver(x, 0, 3, -1, "tax");
        Check.deliver(x, 0, 3, -1, "b");
        Check.deliver(x, 0, 3, -1, "c");
        Check.due("46 live ones do not count", x.heldOnlyBy(0), 0);
        for (int message = 0; message < 3; message++) {
            x.delete(message, 0);
        }
        x.delete(1, 1);
        int undos = x.undoCount();
        Check.due("46 two of three", x.heldOnlyBy(0), 2);
        Check.due("46 the other covers it too", x.heldOnlyBy(1), 0);
        Check.due("46 another user", x.heldOnlyBy(2), 1);
        x.setHold(1, false);
        Check.due("46 all three", x.heldOnlyBy(0), 3);
        Check.due("46 not active", x.heldOnlyBy(1), 0);
        Check.due("58 predicts only", x.undoCount(), Math.min(6, undos + 1));
        Check.due("45 as predicted", x.setHold(0, false), 3);
        Check.due("46 not active", x.heldOnlyBy(0), 0);
        x.setHold(1, true);
        Check.due("46 nothing hidden", x.heldOnlyBy(1), 0);
    }

    private static void releaseOfExpiredOnes() {
        MailSpool x = Check.loaded(TEXT);
        Check.deliver(x, 0, 3, -1, "tax|q");
        x.advance(2);
        Check.due("20 hidden", x.state(0, 0), 2);
        Check.due("20 hidden", x.state(0, 1), 2);
        Check.due("45 v", x.setHold(2, false), 1);
        Check.due("28 kept by u", x.part(0, 2), -1);
        x.setHold(1, false);
        x.advance(1);
        Check.due("45 u", x.setHold(0, false), 1);
        Check.due("28 dead", x.part(0, 2), 3);
        Check.due("28 dead", x.part(1, 2), 3);
        Check.due("48 removed", x.advance(5), 0);
        Check.due("48 removed", x.advance(1), 2);
    }

    private static void wordsOfHolds() {
        MailSpool x = Check.loaded("spool grace 0 round 9;class a days 2;user u class a quota 999;"
                + "hold h user u word abcdefghij;hold i user u word a;hold j user u word class;hold k user u from 1 to 1 word a;");
        String[] contents = {"abcdefghij", "abcdefghijk", "abcdefghi", "b|1abcdefghijA", "a", "ab", "b a", "A|a", "class", "classa",
            "a\nclass\nabcdefghij"};
        int[] want = {1, 0, 0, 1, 2, 0, 2, 2, 4, 0, 7};
        for (int i = 0; i < contents.length; i++) {
            Check.deliver(x, 0, 1, -1, contents[i]);
            Check.due("25 " + contents[i], x.holdsOn(i, 0), want[i]);
            Check.due("42 " + contents[i], x.delete(i, 0), want[i] == 0 ? 3 : 1);
        }
        x.advance(1);
        Check.deliver(x, 0, 1, -1, "a");
        Check.due("25 the day and the word", x.holdsOn(contents.length, 0), 10);
        Check.deliver(x, 0, 1, -1, "b");
        Check.due("25 the day alone", x.holdsOn(contents.length + 1, 0), 0);
    }

    /** A hold counts if it is active when the reference ends, not before and not afterwards. */
    private static void activeOnTheDayOfTheEnd() {
        MailSpool x = Check.loaded("spool grace 0 round 9;class a days 2;user u class a quota 99;hold h user u;");
        x.setHold(0, false);
        Check.deliver(x, 0, 1, -1, "m");
        Check.deliver(x, 0, 1, -1, "n");
        Check.due("42 not active", x.delete(0, 0), 3);
        x.advance(1);
        x.setHold(0, true);
        x.advance(1);
        Check.due("20 active on the day of the end", x.state(1, 0), 2);
        Check.due("20 gone before", x.state(0, 0), 3);
        Check.due("54 events", Check.eventsFrom(x, 5), "2:5:1 2:10:2");
        Check.due("45 released", x.setHold(0, false), 1);
        Check.due("20 gone", x.state(1, 0), 3);
        Check.due("28 dead since the release", x.part(1, 2), 2);
    }
}
