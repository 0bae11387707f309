/** Promises 59 and 60: the output buffer. */
public final class OutputTest {
    public static void main(String[] args) {
        MailSpool x = Check.loaded("spool grace 2 round 5;class a days 100;class zyxwvu days forever;class az days 9 then a;"
                + "user u class a quota 999;user v class a quota 999;hold h user u;");
        Check.due("59 empty", x.writeMailbox(0), 0);
        Check.refused("60 empty", IndexOutOfBoundsException.class, () -> x.outputByte(0));
        Check.deliver(x, 0, 1, -1, "abc");
        Check.deliver(x, 0, 3, 1, "abc");
        Check.deliver(x, 0, 1, 2, "abc");
        x.advance(9);
        Check.deliver(x, 0, 1, -1, "abc");
        x.delete(0, 0);
        String want = "1:zyxwvu/0\n2:a/9\n3:a/9\n";
        Check.due("59 length", x.writeMailbox(0), want.length());
        Check.due("60 bytes", Check.output(x, want.length()), want);
        Check.refused("60 index behind the end", IndexOutOfBoundsException.class, () -> x.outputByte(want.length()));
        Check.refused("60 index -1", IndexOutOfBoundsException.class, () -> x.outputByte(-1));
        Check.refused("60 least int", IndexOutOfBoundsException.class, () -> x.outputByte(Integer.MIN_VALUE));
        Check.refused("60 most int", IndexOutOfBoundsException.class, () -> x.outputByte(Integer.MAX_VALUE));
        Check.refused("59 user 2", java.util.NoSuchElementException.class, () -> x.writeMailbox(2));
        Check.due("59 an exception changes nothing", Check.output(x, want.length()), want);
        Check.due("59 length", x.writeMailbox(1), 11);
        Check.due("59 replaces its content", Check.output(x, 11), "1:zyxwvu/0\n");
        Check.refused("60 the old rest", IndexOutOfBoundsException.class, () -> x.outputByte(11));
        longestMailbox();
        Check.end();
    }

    private static void longestMailbox() {
        MailSpool x = Check.loaded("spool grace 2 round 5;class zzzzzz days forever;user u class zzzzzz quota 999;");
        for (int i = 0; i < 20; i++) {
            x.advance(1000);
        }
        StringBuilder want = new StringBuilder();
        for (int i = 0; i < 120; i++) {
            Check.deliver(x, 0, 1, -1, "m");
            want.append(i).append(":zzzzzz/20000\n");
        }
        Check.due("59 length", x.writeMailbox(0), want.length());
        Check.due("60 bytes", Check.output(x, want.length()), want.toString());
    }
}
