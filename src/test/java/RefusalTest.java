import java.util.NoSuchElementException;

/** EXCEPTIONS: a call that throws changes nothing, and of several exceptions the one named first is thrown. */
public final class RefusalTest {
    private static final Class<? extends RuntimeException> NO_ELEMENT = NoSuchElementException.class;
    private static final Class<? extends RuntimeException> ARGUMENT = IllegalArgumentException.class;
    private static final Class<? extends RuntimeException> STATE = IllegalStateException.class;
    private static final Class<? extends RuntimeException> BOUNDS = IndexOutOfBoundsException.class;

    private static final String TEXT = "spool grace 2 round 5;class a days 10;class b days 4 keep 1 then a;"
            + "class c days forever;user u class b quota 40;user v class a quota 40;user w class c quota 9;"
            + "group g u,v;hold h user u;hold i user v word tax;";

    // the spool of the test at hand, and what it answered before the refused calls
    private static MailSpool x;
    private static String before;

    public static void main(String[] args) {
        rules();
        delivery();
        messagesAndReferences();
        parts();
        users();
        changes();
        days();
        journalAndOutput();
        fullInput();
        wrongContents();
        fullSpool();
        lastDay();
        emptySpool();
        Check.end();
    }

    /** A spool with live, hidden and gone references, dead parts, a parse error and something in each buffer. */
    private static MailSpool busy() {
        MailSpool made = Check.loaded(TEXT);
        Check.deliver(made, 0, 7, -1, "tax|hello");
        Check.deliver(made, 1, 7, -1, "0123456789");
        made.advance(4);
        made.delete(0, 0);
        made.delete(1, 1);
        Check.deliver(made, 2, 3, 2, "hello|x");
        made.delete(1, 0);
        made.setHold(0, false);
        made.setQuota(2, 5);
        made.writeMailbox(1);
        Check.load(made, "spool grace 31");
        made.undo();
        made.undo();
        Check.fill(made, "abc|de");
        return made;
    }

    private static void begin(MailSpool spool) {
        x = spool;
        before = Snapshot.whole(x);
    }

    private static void no(String what, Class<? extends RuntimeException> want, Check.Call call) {
        Check.refused(what, want, call);
        Check.due(what + " changes nothing", Snapshot.whole(x), before);
    }

    /** The input buffer too is as it was: what comes of it is what comes of it in a twin without refused calls. */
    private static void end(MailSpool twin) {
        Check.due("the input buffer delivered", x.deliver(0, 3, -1), twin.deliver(0, 3, -1));
        Check.due("after the delivery", Snapshot.whole(x), Snapshot.whole(twin));
        while (twin.undoCount() > 0) {
            Check.due("undo", x.undo(), twin.undo());
            Check.due("after undo", Snapshot.whole(x), Snapshot.whole(twin));
        }
        Check.due("nothing more to undo", x.undoCount(), 0);
    }

    private static void rules() {
        begin(busy());
        no("3 -1", ARGUMENT, () -> x.truncate(-1));
        no("3 one too long", ARGUMENT, () -> x.truncate(7));
        no("3 most int", ARGUMENT, () -> x.truncate(Integer.MAX_VALUE));
        no("7 kind -1", ARGUMENT, () -> x.find(-1));
        no("7 kind 4", ARGUMENT, () -> x.find(4));
        no("8 kind -1", ARGUMENT, () -> x.count(-1));
        no("8 kind 4", ARGUMENT, () -> x.count(4));
        no("9 group -1", NO_ELEMENT, () -> x.members(-1));
        no("9 group 1", NO_ELEMENT, () -> x.members(1));
        no("10 class -1", NO_ELEMENT, () -> x.retention(-1, 0));
        no("10 class 3", NO_ELEMENT, () -> x.retention(3, 0));
        no("10 value -1", ARGUMENT, () -> x.retention(0, -1));
        no("10 value 3", ARGUMENT, () -> x.retention(2, 3));
        no("10 both", NO_ELEMENT, () -> x.retention(3, 3));
        no("11 class -1", NO_ELEMENT, () -> x.ladderDays(-1));
        no("11 class 3", NO_ELEMENT, () -> x.ladderDays(3));
        end(busy());
    }

    private static void delivery() {
        begin(busy());
        no("13 sender -1", NO_ELEMENT, () -> x.deliver(-1, 1, -1));
        no("13 sender 3", NO_ELEMENT, () -> x.deliver(3, 1, -1));
        no("13 class -2", NO_ELEMENT, () -> x.deliver(0, 1, -2));
        no("13 class 3", NO_ELEMENT, () -> x.deliver(0, 1, 3));
        no("13 user 3", NO_ELEMENT, () -> x.deliver(0, 8, -1));
        no("13 user 3 beside others", NO_ELEMENT, () -> x.deliver(0, 9, -1));
        no("13 user 10", NO_ELEMENT, () -> x.deliver(0, 1024, -1));
        no("13 bit 31", NO_ELEMENT, () -> x.deliver(0, Integer.MIN_VALUE, -1));
        no("13 all bits", NO_ELEMENT, () -> x.deliver(0, -1, -1));
        no("13 no recipients", ARGUMENT, () -> x.deliver(0, 0, -1));
        no("13 sender and no recipients", NO_ELEMENT, () -> x.deliver(3, 0, -1));
        no("13 class and no recipients", NO_ELEMENT, () -> x.deliver(0, 0, 3));
        end(busy());
    }

    private static void messagesAndReferences() {
        begin(busy());
        for (int message : new int[] {-1, 3, 119, 120, Integer.MIN_VALUE, Integer.MAX_VALUE}) {
            no("16 message " + message, NO_ELEMENT, () -> x.message(message, 0));
            no("16 both, message " + message, NO_ELEMENT, () -> x.message(message, 5));
            no("17 message " + message, NO_ELEMENT, () -> x.partOf(message, 0));
            no("18 message " + message, NO_ELEMENT, () -> x.readers(message));
            no("19 message " + message, NO_ELEMENT, () -> x.hidden(message));
        }
        for (int wrong : new int[] {-1, 5, Integer.MIN_VALUE, Integer.MAX_VALUE}) {
            no("16 value " + wrong, ARGUMENT, () -> x.message(0, wrong));
            no("17 place " + wrong, NO_ELEMENT, () -> x.partOf(0, wrong));
        }
        no("17 place 2 of 2", NO_ELEMENT, () -> x.partOf(0, 2));
        no("17 place 1 of 1", NO_ELEMENT, () -> x.partOf(1, 1));
        int[][] pairs = {{-1, 0}, {3, 0}, {0, -1}, {0, 3}, {0, 10}, {1, -10}, {1, 2}, {2, 2}, {Integer.MAX_VALUE, 0},
            {0, Integer.MAX_VALUE}, {Integer.MIN_VALUE, Integer.MIN_VALUE}, {429496729, 6}, {429496730, -4}};
        for (int[] pair : pairs) {
            noReference(pair[0], pair[1]);
        }
        end(busy());
    }

    private static void noReference(int message, int user) {
        String at = " of " + message + ", " + user;
        no("20" + at, NO_ELEMENT, () -> x.state(message, user));
        no("21" + at, NO_ELEMENT, () -> x.classOf(message, user));
        no("22" + at, NO_ELEMENT, () -> x.enteredOn(message, user));
        no("23" + at, NO_ELEMENT, () -> x.expiresOn(message, user));
        no("24" + at, NO_ELEMENT, () -> x.isKept(message, user));
        no("25" + at, NO_ELEMENT, () -> x.holdsOn(message, user));
        no("41" + at, NO_ELEMENT, () -> x.file(message, user, 0));
        no("42" + at, NO_ELEMENT, () -> x.delete(message, user));
        no("43" + at, NO_ELEMENT, () -> x.recover(message, user));
    }

    private static void parts() {
        begin(busy());
        Check.due("four parts in the store", x.storedParts(), 4);
        for (int part : new int[] {-1, 4, 479, 480, Integer.MIN_VALUE, Integer.MAX_VALUE}) {
            no("27 index " + part, NO_ELEMENT, () -> x.storedPart(part));
            no("28 part " + part, NO_ELEMENT, () -> x.part(part, 0));
            no("28 both, part " + part, NO_ELEMENT, () -> x.part(part, 4));
            no("29 part " + part, NO_ELEMENT, () -> x.partByte(part, 0));
            no("29 both, part " + part, NO_ELEMENT, () -> x.partByte(part, -1));
            no("30 part " + part, NO_ELEMENT, () -> x.digest(part));
            no("50 part " + part, NO_ELEMENT, () -> x.removedOn(part));
        }
        no("28 value -1", ARGUMENT, () -> x.part(0, -1));
        no("28 value 4", ARGUMENT, () -> x.part(0, 4));
        no("29 offset -1", BOUNDS, () -> x.partByte(0, -1));
        no("29 offset 3 of 3", BOUNDS, () -> x.partByte(0, 3));
        no("29 least offset", BOUNDS, () -> x.partByte(0, Integer.MIN_VALUE));
        no("29 greatest offset", BOUNDS, () -> x.partByte(0, Integer.MAX_VALUE));
        end(busy());
    }

    private static void users() {
        begin(busy());
        for (int user : new int[] {-1, 3, 9, 10, 31, 32, Integer.MIN_VALUE, Integer.MAX_VALUE}) {
            no("35 user " + user, NO_ELEMENT, () -> x.usage(user));
            no("36 user " + user, NO_ELEMENT, () -> x.quota(user));
            no("37 user " + user, NO_ELEMENT, () -> x.fairShare(user));
            no("38 user " + user, NO_ELEMENT, () -> x.inClass(user, 0));
            no("39 both, user " + user, NO_ELEMENT, () -> x.matches(user));
            no("40 user " + user, NO_ELEMENT, () -> x.commonBytes(user, 0));
            no("40 other " + user, NO_ELEMENT, () -> x.commonBytes(0, user));
            no("47 user " + user, NO_ELEMENT, () -> x.setQuota(user, 5));
            no("47 both, user " + user, NO_ELEMENT, () -> x.setQuota(user, 0));
            no("53 user " + user, NO_ELEMENT, () -> x.goneAfter(user, 0));
            no("53 both, user " + user, NO_ELEMENT, () -> x.goneAfter(user, 2001));
            no("59 user " + user, NO_ELEMENT, () -> x.writeMailbox(user));
        }
        no("38 class -1", NO_ELEMENT, () -> x.inClass(0, -1));
        no("38 class 3", NO_ELEMENT, () -> x.inClass(0, 3));
        no("39 no word", ARGUMENT, () -> x.matches(0));
        end(busy());
    }

    private static void changes() {
        begin(busy());
        Check.due("hidden", x.state(0, 0), 1);
        Check.due("gone", x.state(1, 1), 3);
        no("41 hidden", STATE, () -> x.file(0, 0, 1));
        no("41 gone", STATE, () -> x.file(1, 1, 1));
        no("41 class -1", NO_ELEMENT, () -> x.file(0, 1, -1));
        no("41 class 3", NO_ELEMENT, () -> x.file(0, 1, 3));
        no("41 both", NO_ELEMENT, () -> x.file(0, 0, 3));
        no("42 hidden", STATE, () -> x.delete(0, 0));
        no("42 gone", STATE, () -> x.delete(1, 1));
        no("43 live", STATE, () -> x.recover(0, 1));
        no("43 gone", STATE, () -> x.recover(1, 1));
        for (int hold : new int[] {-1, 2, 6, 31, 32, 33, Integer.MIN_VALUE, Integer.MAX_VALUE}) {
            no("44 hold " + hold, NO_ELEMENT, () -> x.isActive(hold));
            no("45 release of hold " + hold, NO_ELEMENT, () -> x.setHold(hold, false));
            no("45 hold " + hold, NO_ELEMENT, () -> x.setHold(hold, true));
            no("46 hold " + hold, NO_ELEMENT, () -> x.heldOnlyBy(hold));
        }
        for (int bytes : new int[] {0, -1, 100000, Integer.MIN_VALUE, Integer.MAX_VALUE}) {
            no("47 bytes " + bytes, ARGUMENT, () -> x.setQuota(0, bytes));
        }
        end(busy());
    }

    private static void days() {
        begin(busy());
        for (int days : new int[] {0, -1, 1001, Integer.MIN_VALUE, Integer.MAX_VALUE}) {
            no("48 days " + days, ARGUMENT, () -> x.advance(days));
        }
        for (int days : new int[] {-1, 2001, Integer.MIN_VALUE, Integer.MAX_VALUE}) {
            no("52 days " + days, ARGUMENT, () -> x.bytesAfter(days));
            no("53 days " + days, ARGUMENT, () -> x.goneAfter(0, days));
        }
        end(busy());
    }

    private static void journalAndOutput() {
        begin(busy());
        int events = x.eventCount();
        for (int index : new int[] {-1, events, 60, Integer.MIN_VALUE, Integer.MAX_VALUE}) {
            no("55 event " + index, NO_ELEMENT, () -> x.event(index, 0));
            no("55 both, event " + index, NO_ELEMENT, () -> x.event(index, 3));
        }
        for (int what : new int[] {-1, 3, Integer.MIN_VALUE, Integer.MAX_VALUE}) {
            no("55 value " + what, ARGUMENT, () -> x.event(0, what));
        }
        for (int kind : new int[] {0, -1, 11, Integer.MIN_VALUE, Integer.MAX_VALUE}) {
            no("56 kind " + kind, ARGUMENT, () -> x.eventsOf(kind));
        }
        String lines = "0:a/0\n2:c/4\n";
        Check.due("60 the mailbox of v", Check.output(x, lines.length()), lines);
        for (int index : new int[] {-1, lines.length(), 1200, 2040, Integer.MIN_VALUE, Integer.MAX_VALUE}) {
            no("60 index " + index, BOUNDS, () -> x.outputByte(index));
        }
        end(busy());
    }

    private static MailSpool withFullInput() {
        MailSpool made = busy();
        Check.fill(made, Check.repeat("0123456789", 120));
        return made;
    }

    private static void fullInput() {
        for (int length : new int[] {1200, 1199, 1181}) {
            begin(withFullInput());
            x.truncate(length);
            no("2 at " + length, STATE, () -> x.append(1, 2, 3, 4, 5));
            no("3 its length stays " + length, ARGUMENT, () -> x.truncate(length + 1));
            x.truncate(length);
            x.truncate(195);
            MailSpool twin = withFullInput();
            twin.truncate(195);
            end(twin);
        }
    }

    private static void wrongContents() {
        String[] wrong = {"", "|", "a|", "|a", "a||b", "||||", "a|b|c|d|", "|a|b|c|d", "a|b|c|d|e",
            Check.repeat("x", 201), "a|" + Check.repeat("x", 201), Check.repeat("x", 201) + "|a|b|c"};
        for (String content : wrong) {
            begin(busy());
            Check.fill(x, content);
            no("13 content " + content, ARGUMENT, () -> x.deliver(0, 3, -1));
            no("13 sender before content " + content, NO_ELEMENT, () -> x.deliver(3, 3, -1));
            Check.refused("13 the buffer is no longer", ARGUMENT, () -> x.truncate(content.length() + 1));
            x.truncate(content.length());
            Check.fill(x, "abc|de");
            end(busy());
        }
    }

    private static void fullSpool() {
        begin(Check.loaded(TEXT));
        for (int i = 0; i < 120; i++) {
            Check.deliver(x, 0, 4, -1, "m");
            x.delete(i, 2);
        }
        before = Snapshot.whole(x);
        Check.fill(x, "abc");
        no("13 message 121", STATE, () -> x.deliver(0, 3, -1));
        no("13 no recipients and message 121", ARGUMENT, () -> x.deliver(0, 0, -1));
        no("13 sender and message 121", NO_ELEMENT, () -> x.deliver(3, 3, -1));
        x.undo();
        x.undo();
        Check.due("13 the buffer stays", x.deliver(0, 2, -1), 119);
        Check.due("17 its part", x.part(x.partOf(119, 0), 0), 3);
        begin(Check.loaded(TEXT));
        x.setQuota(0, 99999);
        for (int i = 0; i < 40; i++) {
            Check.deliver(x, 0, 1, -1, (char) ('A' + i) + Check.repeat("z", 199));
        }
        before = Snapshot.whole(x);
        Check.due("31 full", x.storedBytes(), 8000);
        Check.fill(x, "b");
        no("13 8001 bytes", STATE, () -> x.deliver(0, 1, -1));
        no("13 8001 bytes, though it would bounce", STATE, () -> x.deliver(0, 4, -1));
        no("13 no recipients and 8001 bytes", ARGUMENT, () -> x.deliver(0, 0, -1));
        no("13 recipients and 8001 bytes", NO_ELEMENT, () -> x.deliver(0, 8, -1));
        x.undo();
        Check.due("13 the buffer stays", x.deliver(0, 1, -1), 39);
        Check.due("31 room for one", x.storedBytes(), 7801);
    }

    private static void lastDay() {
        begin(busy());
        for (int i = 0; i < 19; i++) {
            x.advance(1000);
        }
        before = Snapshot.whole(x);
        Check.due("12 day", x.day(), 19004);
        no("48 day 20001", STATE, () -> x.advance(997));
        no("48 day 20004", STATE, () -> x.advance(1000));
        no("48 too many days at once", ARGUMENT, () -> x.advance(1001));
        x.advance(996);
        before = Snapshot.whole(x);
        Check.due("12 day", x.day(), 20000);
        no("48 one day more", STATE, () -> x.advance(1));
        no("48 no day", ARGUMENT, () -> x.advance(0));
    }

    /** Before the first load there is nothing, so that even the number 0 is refused. */
    private static void emptySpool() {
        begin(new MailSpool());
        no("57 nothing to undo", STATE, () -> x.undo());
        no("9", NO_ELEMENT, () -> x.members(0));
        no("10", NO_ELEMENT, () -> x.retention(0, 0));
        no("11", NO_ELEMENT, () -> x.ladderDays(0));
        no("13 no sender", NO_ELEMENT, () -> x.deliver(0, 1, -1));
        no("13 no sender, no recipients", NO_ELEMENT, () -> x.deliver(0, 0, -1));
        no("16", NO_ELEMENT, () -> x.message(0, 0));
        no("17", NO_ELEMENT, () -> x.partOf(0, 0));
        no("18", NO_ELEMENT, () -> x.readers(0));
        no("19", NO_ELEMENT, () -> x.hidden(0));
        noReference(0, 0);
        no("27", NO_ELEMENT, () -> x.storedPart(0));
        no("28", NO_ELEMENT, () -> x.part(0, 0));
        no("29", NO_ELEMENT, () -> x.partByte(0, 0));
        no("30", NO_ELEMENT, () -> x.digest(0));
        no("35", NO_ELEMENT, () -> x.usage(0));
        no("36", NO_ELEMENT, () -> x.quota(0));
        no("37", NO_ELEMENT, () -> x.fairShare(0));
        no("38", NO_ELEMENT, () -> x.inClass(0, 0));
        no("39 no user and no word", NO_ELEMENT, () -> x.matches(0));
        no("40", NO_ELEMENT, () -> x.commonBytes(0, 0));
        no("44", NO_ELEMENT, () -> x.isActive(0));
        no("45", NO_ELEMENT, () -> x.setHold(0, true));
        no("46", NO_ELEMENT, () -> x.heldOnlyBy(0));
        no("47", NO_ELEMENT, () -> x.setQuota(0, 1));
        no("50", NO_ELEMENT, () -> x.removedOn(0));
        no("53", NO_ELEMENT, () -> x.goneAfter(0, 0));
        no("55", NO_ELEMENT, () -> x.event(0, 0));
        no("59", NO_ELEMENT, () -> x.writeMailbox(0));
        no("60", BOUNDS, () -> x.outputByte(0));
    }
}
