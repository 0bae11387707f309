/** Section 7: undo() restores everything except the two buffers and the parse error, of each call that it undoes. */
public final class UndoTest {
    private static final String TEXT = "spool grace 1 round 3;class a days 4;class b days 2 keep 1 then a;"
            + "user u class b quota 30;user v class a quota 30;user w class a quota 9;"
            + "group g u,v;hold h user u;hold i user v word tax;";
    private static final String OTHER = "spool grace 0 round 7;class z days forever;user y class z quota 5;hold x user y;";

    public static void main(String[] args) {
        eachCall();
        sixInARow();
        theSeventhForgetsTheFirst();
        backToANewObject();
        callsThatAreNotUndone();
        buffersAndParseErrorStay();
        undoIsForgottenByNothing();
        Check.end();
    }

    /** Message 0 is hidden for u and live for v, 1 is gone for v, 2 is live for u; part 2 is dead, part 0 is shared. */
    private static MailSpool busy() {
        MailSpool x = Check.loaded(TEXT);
        Check.deliver(x, 0, 3, -1, "tax|hello");
        Check.deliver(x, 0, 2, -1, "dead|hello");
        Check.deliver(x, 1, 5, -1, "tax|x|x");
        x.delete(0, 0);
        x.delete(1, 1);
        x.advance(1);
        return x;
    }

    private static void undone(String what, boolean changes, MailSpool x, Check.Call call) {
        String before = Snapshot.state(x);
        int undos = x.undoCount();
        call.run();
        Check.due(what + " can be seen", !Snapshot.state(x).equals(before), changes);
        Check.due("58 after " + what, x.undoCount(), Math.min(6, undos + 1));
        Check.due("57 of " + what, x.undo(), Math.min(6, undos + 1) - 1);
        Check.due("57 restores what was before " + what, Snapshot.state(x), before);
    }

    private static void eachCall() {
        MailSpool x = busy();
        undone("a load", true, x, () -> Check.load(x, OTHER));
        undone("a load of the same text", true, x, () -> Check.load(x, TEXT));
        undone("a load of the spool statement alone", true, x, () -> Check.load(x, "spool grace 1 round 3;"));
        undone("a delivery", true, x, () -> Check.deliver(x, 0, 7, -1, "new|hello"));
        undone("a delivery that makes a part kept again", true, x, () -> Check.deliver(x, 2, 1, 0, "dead"));
        undone("a delivery that bounces for some", true, x, () -> Check.deliver(x, 0, 7, -1, "0123456789"));
        undone("a delivery that bounces for all", true, x, () -> Check.deliver(x, 0, 4, -1, "0123456789"));
        undone("file", true, x, () -> x.file(0, 1, 1));
        undone("file in the same class on another day", true, x, () -> x.file(0, 1, 0));
        undone("delete of a reference that becomes hidden", true, x, () -> x.delete(2, 0));
        undone("delete of a reference that is gone", true, x, () -> x.delete(2, 2));
        undone("recover", true, x, () -> x.recover(0, 0));
        undone("release of a hold", true, x, () -> x.setHold(0, false));
        undone("release of a hold that holds nothing", true, x, () -> x.setHold(1, false));
        undone("setQuota", true, x, () -> x.setQuota(2, 1));
        undone("a day", true, x, () -> x.advance(1));
        undone("days with references that leave and parts that are removed", true, x, () -> x.advance(12));
        undone("a thousand days", true, x, () -> x.advance(1000));
        x.setHold(0, false);
        undone("a hold made active", true, x, () -> x.setHold(0, true));
    }

    private static void sixInARow() {
        MailSpool x = busy();
        String[] before = new String[6];
        Check.Call[] calls = {() -> x.advance(3), () -> Check.deliver(x, 0, 3, -1, "tax|y"), () -> x.recover(0, 0),
            () -> x.setHold(1, false), () -> Check.load(x, OTHER), () -> Check.deliver(x, 0, 1, -1, "z")};
        for (int i = 0; i < 6; i++) {
            before[i] = Snapshot.state(x);
            calls[i].run();
            Check.due("58 never more than six", x.undoCount(), 6);
        }
        for (int i = 5; i >= 0; i--) {
            Check.due("57 calls left", x.undo(), i);
            Check.due("57 restores what was before call " + i, Snapshot.state(x), before[i]);
        }
        Check.refused("57 nothing is left", IllegalStateException.class, () -> x.undo());
        Check.due("57 a refused undo changes nothing", Snapshot.state(x), before[0]);
    }

    private static void theSeventhForgetsTheFirst() {
        MailSpool x = new MailSpool();
        for (int call = 1; call <= 20; call++) {
            x.advance(1);
            Check.due("58 after call " + call, x.undoCount(), Math.min(6, call));
        }
        for (int left = 5; left >= 3; left--) {
            Check.due("57 left", x.undo(), left);
        }
        for (int call = 1; call <= 4; call++) {
            x.advance(10);
        }
        Check.due("58 full again", x.undoCount(), 6);
        int[] days = {47, 37, 27, 17, 16, 15};
        for (int i = 0; i < days.length; i++) {
            Check.due("57 left", x.undo(), 5 - i);
            Check.due("12 day", x.day(), days[i]);
        }
        Check.refused("57 the day before is forgotten", IllegalStateException.class, () -> x.undo());
        Check.due("12 day", x.day(), 15);
    }

    private static void backToANewObject() {
        MailSpool x = new MailSpool();
        String before = Snapshot.state(x);
        x.advance(40);
        Check.load(x, TEXT);
        Check.deliver(x, 0, 7, -1, "tax");
        for (int left = 2; left >= 0; left--) {
            Check.due("57 left", x.undo(), left);
        }
        Check.due("57 as new", Snapshot.state(x), before);
    }

    private static void callsThatAreNotUndone() {
        MailSpool x = Check.loaded(TEXT);
        Check.deliver(x, 0, 3, -1, "tax");
        int undos = x.undoCount();
        String before = Snapshot.state(x);
        x.setHold(0, true);
        x.setQuota(0, 30);
        x.file(0, 0, 1);
        x.file(0, 1, 0);
        Check.load(x, "spool");
        Check.fill(x, "u");
        x.find(1);
        Check.fill(x, "tax");
        x.matches(0);
        x.writeMailbox(0);
        x.append(1, 2, 3, 4, 5);
        x.truncate(3);
        Check.due("58 nothing to undo", x.undoCount(), undos);
        Check.due("7 nothing changed", Snapshot.state(x), before);
        x.setHold(0, false);
        undos = x.undoCount();
        Check.due("45 released already", x.setHold(0, false), 0);
        Check.due("58 nothing to undo", x.undoCount(), undos);
        Check.due("57 the delivery is the call before the release", x.undo(), undos - 1);
        Check.due("57 active again", Snapshot.state(x), before);
    }

    private static void buffersAndParseErrorStay() {
        MailSpool x = busy();
        x.writeMailbox(1);
        String output = "0:a/0\n";
        Check.load(x, TEXT + "class");
        Check.deliver(x, 0, 2, -1, "gone");
        Check.fill(x, "kept");
        x.undo();
        Check.due("57 output", Check.output(x, output.length()), output);
        Check.refused("57 no more of it", IndexOutOfBoundsException.class, () -> x.outputByte(output.length()));
        Check.due("57 code", x.errorCode(), 1);
        Check.due("57 position", x.errorPosition(), TEXT.length() + 5);
        Check.due("57 input", x.deliver(0, 2, -1), 3);
        Check.due("29 its bytes", x.partByte(x.partOf(3, 0), 0), 'k');
        Check.load(x, TEXT);
        Check.due("59 output stays over a load", Check.output(x, output.length()), output);
        x.undo();
        Check.due("5 no error, for the last load() had none", x.errorCode(), 0);
        Check.due("6 no position", x.errorPosition(), -1);
        Check.refused("57 the text is not given back", IllegalArgumentException.class, () -> x.truncate(1));
    }

    /** What is undone leaves nothing behind: the same calls give the same answers once more. */
    private static void undoIsForgottenByNothing() {
        MailSpool x = busy();
        MailSpool twin = busy();
        Check.deliver(x, 2, 3, -1, "one|two|three|four");
        x.advance(5);
        x.setHold(0, false);
        x.undo();
        x.undo();
        x.undo();
        for (MailSpool each : new MailSpool[] {x, twin}) {
            Check.deliver(each, 0, 3, 0, "five|dead|tax");
            each.delete(3, 1);
            each.advance(9);
        }
        Check.due("57 as if it had not been", Snapshot.state(x), Snapshot.state(twin));
    }
}
