import java.util.NoSuchElementException;

/** Promises 48 to 53: days, rounds and what they will bring. */
public final class DayTest {
    private static final String TEXT = "spool grace 2 round 5;class a days 10;class b days 4 keep 1 then a;"
            + "class c days forever;user u class b quota 99;user v class a quota 99;";

    public static void main(String[] args) {
        advance();
        limitsOfAdvance();
        leavingTakesLookedAtMoment();
        oneStepADay();
        graceAndInterval();
        nextRound();
        removedOn();
        emptyOn();
        farAhead();
        bytesAfter();
        goneAfter();
        predictionsChangeNothing();
        Check.end();
    }

    private static void advance() {
        MailSpool x = Check.loaded(TEXT);
        Check.deliver(x, 0, 2, -1, "abc|d");
        Check.deliver(x, 0, 1, -1, "efg");
        Check.deliver(x, 0, 1, -1, "efg");
        Check.due("48 nothing removed", x.advance(9), 0);
        Check.due("12 day", x.day(), 9);
        Check.due("20 live", x.state(0, 1), 0);
        Check.due("21 left on day 4", x.enteredOn(1, 0), 4);
        Check.due("21 kept", x.classOf(2, 0), 1);
        Check.due("48 expired, but not dead for long enough", x.advance(1), 0);
        Check.due("20 expired", x.state(0, 1), 3);
        Check.due("28 dead since", x.part(0, 2), 10);
        Check.due("48 a round removes both", x.advance(5), 2);
        Check.due("20 expired by the ladder", x.state(1, 0), 3);
        Check.due("28 the other message keeps it", x.part(2, 2), -1);
        Check.due("48 kept for good", x.advance(1000), 0);
        Check.due("12 day", x.day(), 1015);
        Check.due("26 stored", x.storedParts(), 1);
    }

    private static void limitsOfAdvance() {
        MailSpool x = Check.loaded(TEXT);
        Check.refused("48 no day", IllegalArgumentException.class, () -> x.advance(0));
        Check.refused("48 negative", IllegalArgumentException.class, () -> x.advance(-1));
        Check.refused("48 1001 days", IllegalArgumentException.class, () -> x.advance(1001));
        Check.refused("48 most int", IllegalArgumentException.class, () -> x.advance(Integer.MAX_VALUE));
        for (int i = 0; i < 19; i++) {
            x.advance(1000);
        }
        x.advance(999);
        Check.refused("48 day 20001", IllegalStateException.class, () -> x.advance(2));
        Check.refused("48 first of two", IllegalArgumentException.class, () -> x.advance(1001));
        Check.due("12 day", x.day(), 19999);
        x.advance(1);
        Check.due("12 day", x.day(), 20000);
        Check.refused("48 day 20001", IllegalStateException.class, () -> x.advance(1));
        Check.due("49 round", x.nextRound(), 20005);
        Check.deliver(x, 0, 2, -1, "abc");
        Check.due("50 beyond the last day", x.removedOn(0), 20015);
        Check.due("51 beyond the last day", x.emptyOn(), 20015);
        Check.due("52 beyond the last day", x.bytesAfter(15), 0);
        Check.due("53 beyond the last day", x.goneAfter(1, 10), 1);
        Check.due("59 longest line", x.writeMailbox(1), "0:a/20000\n".length());
    }

    private static void leavingTakesLookedAtMoment() {
        // message 1 leaves class b after message 0 in class a was looked at, and pushes it out only for the next day
        MailSpool x = Check.loaded("spool grace 0 round 1;class a days 3 keep 1;class b days 4 then a;"
                + "user u class b quota 99;");
        Check.deliver(x, 0, 1, 0, "m");
        Check.deliver(x, 0, 1, 1, "n");
        x.advance(4);
        Check.due("20 kept on the day on which the other comes", x.state(0, 0), 0);
        Check.due("21 moved", x.classOf(1, 0), 0);
        Check.due("24 no longer kept", x.isKept(0, 0), false);
        Check.due("23 tomorrow", x.expiresOn(0, 0), 5);
        Check.due("48 removed tomorrow", x.advance(1), 1);
        // the other way round: message 0 comes into the class first, and so message 1 stays the newest
        MailSpool y = Check.loaded("spool grace 0 round 1;class a days 3 keep 1;class b days 4 then a;"
                + "user u class b quota 99;");
        Check.deliver(y, 0, 1, 1, "m");
        Check.deliver(y, 0, 1, 0, "n");
        y.advance(6);
        Check.due("20 not due yet", y.state(0, 0), 0);
        Check.due("20 kept", y.state(1, 0), 0);
        Check.due("48 the old one", y.advance(1), 1);
        Check.due("20 expired", y.state(0, 0), 3);
        Check.due("20 kept", y.state(1, 0), 0);
    }

    private static void oneStepADay() {
        MailSpool x = Check.loaded("spool grace 0 round 1;class a days 1;class b days 1 then a;class c days 1 then b;"
                + "user u class c quota 99;");
        Check.deliver(x, 0, 1, -1, "m");
        for (int day = 1; day <= 2; day++) {
            x.advance(1);
            Check.due("48 class on day " + day, x.classOf(0, 0), 2 - day);
            Check.due("48 entered on day " + day, x.enteredOn(0, 0), day);
        }
        Check.due("48 removed on the day of its end", x.advance(1), 1);
    }

    private static void graceAndInterval() {
        for (int grace = 0; grace <= 4; grace++) {
            MailSpool x = Check.loaded("spool grace " + grace + " round 3;class a days 2;user u class a quota 99;");
            Check.deliver(x, 0, 1, -1, "m");
            int want = grace <= 1 ? 3 : 6;
            Check.due("50 grace " + grace, x.removedOn(0), want);
            x.advance(want - 1);
            Check.due("26 still there", x.storedParts(), 1);
            Check.due("48 removed", x.advance(1), 1);
        }
        MailSpool y = Check.loaded("spool grace 30 round 30;class a days 1;user u class a quota 99;");
        Check.deliver(y, 0, 1, -1, "m");
        Check.due("50 dead since 1, removed after the grace", y.removedOn(0), 60);
    }

    private static void nextRound() {
        MailSpool x = Check.loaded(TEXT);
        int[] want = {5, 5, 5, 5, 5, 10, 10};
        for (int day = 0; day < want.length; day++) {
            Check.due("49 on day " + day, x.nextRound(), want[day]);
            x.advance(1);
        }
    }

    private static void removedOn() {
        MailSpool x = Check.loaded(TEXT);
        Check.deliver(x, 0, 2, -1, "abc");
        Check.deliver(x, 0, 1, 2, "def");
        Check.deliver(x, 0, 1, -1, "ghi");
        Check.deliver(x, 0, 1, -1, "jkl");
        Check.due("50 expires on day 10", x.removedOn(0), 15);
        Check.due("50 forever", x.removedOn(1), -1);
        Check.due("50 by the ladder", x.removedOn(2), 20);
        Check.due("50 kept", x.removedOn(3), -1);
        x.delete(0, 1);
        Check.due("50 dead", x.removedOn(0), 5);
        Check.refused("50 part 4", NoSuchElementException.class, () -> x.removedOn(4));
        Check.refused("50 part -1", NoSuchElementException.class, () -> x.removedOn(-1));
        x.advance(5);
        Check.refused("50 removed", NoSuchElementException.class, () -> x.removedOn(0));
        MailSpool held = Check.loaded(TEXT + "hold h user v;");
        Check.deliver(held, 0, 2, -1, "abc");
        Check.due("50 held", held.removedOn(0), -1);
        held.setHold(0, false);
        Check.due("50 released", held.removedOn(0), 15);
    }

    private static void emptyOn() {
        MailSpool x = Check.loaded(TEXT);
        x.advance(3);
        Check.due("51 empty already", x.emptyOn(), 3);
        Check.deliver(x, 0, 2, -1, "abc");
        Check.deliver(x, 0, 1, -1, "def");
        Check.due("51 kept", x.emptyOn(), -1);
        x.delete(1, 0);
        Check.due("51 the last one", x.emptyOn(), 15);
        x.delete(0, 1);
        Check.due("51 dead", x.emptyOn(), 5);
        x.advance(2);
        Check.due("51 empty", x.emptyOn(), 5);
    }

    private static void farAhead() {
        String two = "class b days 999 then a;class c days %d then b;user u class c quota 99;";
        MailSpool x = Check.loaded("spool grace 1 round 1;class a days 1;" + String.format(two, 999));
        Check.deliver(x, 0, 1, -1, "m");
        Check.due("50 within 2000 days", x.removedOn(0), 2000);
        Check.due("51 within 2000 days", x.emptyOn(), 2000);
        Check.due("52 the day before", x.bytesAfter(1999), 1);
        Check.due("52 after 2000 days", x.bytesAfter(2000), 0);
        Check.due("53 the day before", x.goneAfter(0, 1998), 0);
        Check.due("53 that day", x.goneAfter(0, 1999), 1);
        MailSpool y = Check.loaded("spool grace 1 round 1;class a days 2;" + String.format(two, 999));
        Check.deliver(y, 0, 1, -1, "m");
        Check.due("50 after 2001 days", y.removedOn(0), -1);
        Check.due("51 after 2001 days", y.emptyOn(), -1);
        y.advance(1);
        Check.due("50 a day later", y.removedOn(0), 2001);
        Check.due("51 a day later", y.emptyOn(), 2001);
    }

    private static void bytesAfter() {
        MailSpool x = Check.loaded(TEXT);
        Check.deliver(x, 0, 2, -1, "abc");
        Check.deliver(x, 0, 1, -1, "defg");
        Check.deliver(x, 0, 1, -1, "hijkl");
        int[] days = {0, 14, 15, 19, 20, 2000};
        int[] want = {12, 12, 9, 9, 5, 5};
        for (int i = 0; i < days.length; i++) {
            Check.due("52 after " + days[i], x.bytesAfter(days[i]), want[i]);
        }
        Check.refused("52 after 2001", IllegalArgumentException.class, () -> x.bytesAfter(2001));
        Check.refused("52 after -1", IllegalArgumentException.class, () -> x.bytesAfter(-1));
        x.delete(0, 1);
        Check.due("52 dead parts count", x.bytesAfter(4), 12);
        Check.due("52 dead ones go", x.bytesAfter(5), 9);
    }

    private static void goneAfter() {
        MailSpool x = Check.loaded(TEXT + "hold h user v;");
        Check.deliver(x, 0, 3, -1, "abc");
        Check.deliver(x, 0, 3, -1, "def");
        x.advance(1);
        Check.deliver(x, 0, 3, -1, "ghi");
        x.delete(1, 1);
        Check.due("53 hidden ones count, those that are so now do not", x.goneAfter(1, 9), 1);
        Check.due("53 a day less", x.goneAfter(1, 8), 0);
        Check.due("53 all that are live", x.goneAfter(1, 10), 2);
        Check.due("53 all that are live", x.goneAfter(1, 2000), 2);
        Check.due("53 u by the ladder", x.goneAfter(0, 12), 0);
        Check.due("53 u by the ladder", x.goneAfter(0, 13), 2);
        Check.due("53 one is kept", x.goneAfter(0, 2000), 2);
        Check.due("53 now", x.goneAfter(0, 0), 0);
        Check.refused("53 after 2001", IllegalArgumentException.class, () -> x.goneAfter(0, 2001));
        Check.refused("53 after -1", IllegalArgumentException.class, () -> x.goneAfter(0, -1));
        Check.refused("53 user first", NoSuchElementException.class, () -> x.goneAfter(2, 2001));
    }

    private static void predictionsChangeNothing() {
        MailSpool x = Check.loaded(TEXT);
        Check.deliver(x, 0, 2, -1, "abc");
        Check.deliver(x, 0, 1, -1, "def");
        x.delete(1, 0);
        String events = Check.events(x);
        x.removedOn(0);
        x.emptyOn();
        x.bytesAfter(2000);
        x.goneAfter(1, 2000);
        x.nextRound();
        Check.due("54 events", Check.events(x), events);
        Check.due("12 day", x.day(), 0);
        Check.due("20 state", x.state(0, 1), 0);
        Check.due("26 stored", x.storedParts(), 2);
        Check.due("32 dead", x.deadBytes(), 3);
        Check.due("58 undo", x.undoCount(), 4);
    }
}
