import java.util.NoSuchElementException;

/** Promises 35 to 40 and 47: users, what they use and share. */
public final class UserTest {
    private static final String TEXT = "spool grace 2 round 5;class a days 10;class b days 4 then a;"
            + "user u class a quota 50;user v class b quota 60;user w class a quota 8;hold h user u;";

    public static void main(String[] args) {
        usageAndQuota();
        fairShare();
        inClass();
        matches();
        maximalRuns();
        commonBytes();
        setQuota();
        Check.end();
    }

    private static void usageAndQuota() {
        MailSpool x = Check.loaded(TEXT);
        Check.due("35 none", x.usage(0), 0);
        Check.deliver(x, 2, 3, -1, "abc|abc|d");
        Check.deliver(x, 2, 5, -1, "abc");
        int[] usages = {10, 7, 3};
        int[] quotas = {50, 60, 8};
        for (int user = 0; user < 3; user++) {
            Check.due("35 user " + user, x.usage(user), usages[user]);
            Check.due("36 user " + user, x.quota(user), quotas[user]);
        }
        x.delete(0, 0);
        Check.due("35 a hidden reference does not count", x.usage(0), 3);
        for (int user : new int[] {3, -1, 10, 32, Integer.MIN_VALUE}) {
            Check.refused("35 user " + user, NoSuchElementException.class, () -> x.usage(user));
            Check.refused("36 user " + user, NoSuchElementException.class, () -> x.quota(user));
            Check.refused("37 user " + user, NoSuchElementException.class, () -> x.fairShare(user));
            Check.refused("38 user " + user, NoSuchElementException.class, () -> x.inClass(user, 0));
            Check.refused("39 user " + user, NoSuchElementException.class, () -> x.matches(user));
            Check.refused("40 user " + user, NoSuchElementException.class, () -> x.commonBytes(user, 0));
            Check.refused("40 other " + user, NoSuchElementException.class, () -> x.commonBytes(0, user));
            Check.refused("47 user " + user, NoSuchElementException.class, () -> x.setQuota(user, 0));
            Check.refused("53 user " + user, NoSuchElementException.class, () -> x.goneAfter(user, -1));
            Check.refused("59 user " + user, NoSuchElementException.class, () -> x.writeMailbox(user));
        }
    }

    private static void fairShare() {
        MailSpool x = Check.loaded(TEXT);
        Check.due("37 none", x.fairShare(0), 0.0);
        Check.deliver(x, 0, 7, -1, "a|bb|a");
        Check.due("37 a part counts once", x.fairShare(0), 1.0 / 3 + 2.0 / 3);
        Check.deliver(x, 0, 3, -1, "ccccccc|a");
        Check.deliver(x, 0, 1, -1, "ccccccc|ddd");
        Check.due("37 u", x.fairShare(0), 1.0 / 3 + 2.0 / 3 + 7.0 / 2 + 3.0);
        Check.due("37 v", x.fairShare(1), 1.0 / 3 + 2.0 / 3 + 7.0 / 2);
        Check.due("37 w", x.fairShare(2), 1.0 / 3 + 2.0 / 3);
        x.delete(1, 1);
        Check.due("37 v has it by no other message", x.fairShare(1), 1.0 / 3 + 2.0 / 3);
        Check.due("37 u alone has it", x.fairShare(0), 1.0 / 3 + 2.0 / 3 + 7.0 + 3.0);
        x.delete(0, 0);
        Check.due("37 u still has the first part", x.fairShare(0), 1.0 / 3 + 7.0 + 3.0);
        Check.due("37 a hidden reference does not share", x.fairShare(2), 1.0 / 3 + 2.0 / 2);
    }

    private static void inClass() {
        MailSpool x = Check.loaded(TEXT);
        Check.deliver(x, 0, 7, -1, "a");
        Check.deliver(x, 0, 3, 1, "a");
        Check.deliver(x, 0, 3, -1, "a");
        int[][] want = {{2, 1}, {0, 3}, {1, 0}};
        for (int user = 0; user < 3; user++) {
            for (int kind = 0; kind < 2; kind++) {
                Check.due("38 user " + user + " class " + kind, x.inClass(user, kind), want[user][kind]);
            }
        }
        x.delete(0, 0);
        Check.due("38 live ones only", x.inClass(0, 0), 1);
        Check.refused("38 class 2", NoSuchElementException.class, () -> x.inClass(0, 2));
        Check.refused("38 class -1", NoSuchElementException.class, () -> x.inClass(0, -1));
    }

    private static int matches(MailSpool x, int user, String word) {
        Check.fill(x, word);
        return x.matches(user);
    }

    private static void matches() {
        MailSpool x = Check.loaded(TEXT);
        x.setQuota(2, 999);
        Check.deliver(x, 0, 4, -1, "tax");
        Check.deliver(x, 0, 4, -1, "a tax b tax|tax");
        Check.deliver(x, 0, 4, -1, "ta|x|TAX|atax");
        Check.deliver(x, 0, 4, -1, "abcdefghij.abcdefghijk\n1class2");
        Check.due("39 two", matches(x, 2, "tax"), 2);
        Check.refused("39 empties the buffer", IllegalArgumentException.class, () -> x.truncate(1));
        Check.due("39 a whole run", matches(x, 2, "ta"), 1);
        Check.due("39 ten letters", matches(x, 2, "abcdefghij"), 1);
        Check.due("39 a keyword", matches(x, 2, "class"), 1);
        Check.due("39 none", matches(x, 2, "taxes"), 0);
        Check.due("39 another user", matches(x, 0, "tax"), 0);
        for (String wrong : new String[] {"", "abcdefghijk", Check.repeat("a", 28), "Tax", "tax ", " tax", "a1", "a|b"}) {
            Check.fill(x, wrong);
            Check.refused("39 word " + wrong, IllegalArgumentException.class, () -> x.matches(2));
            Check.refused("39 user 3, first of two", NoSuchElementException.class, () -> x.matches(3));
            x.truncate(wrong.length());
        }
        Check.fill(x, "taxi");
        Check.refused("39 user 3", NoSuchElementException.class, () -> x.matches(3));
        x.truncate(3);
        Check.due("39 the buffer stays", x.matches(2), 2);
        x.delete(0, 2);
        Check.due("39 live ones only", matches(x, 2, "tax"), 1);
    }

    /** The bytes next to a and z in their order are no letters; an eleventh letter makes another word. */
    private static void maximalRuns() {
        MailSpool x = Check.loaded(TEXT);
        x.setQuota(0, 999);
        String[] with = {"tax", "`tax{", "TAXtaxTAX", "0tax1", "\u00e1tax\u00fa", "xtax tax", "tax taxx", "x|y|z|tax", "tax|x",
            "t tax", "\u0000tax\n", "taxtax.tax"};
        String[] without = {"xtax", "taxx", "ta|x", "ta x", "TAX", "tA x", "t.ax", "taxtax", "ta", "abcdefghijktax", "taxabcdefghijk"};
        for (String content : with) {
            Check.deliver(x, 0, 1, -1, content);
            Check.due("39 " + content, matches(x, 0, "tax"), x.messageCount());
        }
        for (String content : without) {
            Check.deliver(x, 0, 1, -1, content);
            Check.due("39 " + content, matches(x, 0, "tax"), with.length);
        }
        Check.due("39 one letter, part of no run", matches(x, 0, "a"), 0);
        Check.due("39 one letter", matches(x, 0, "t"), 3);
        Check.due("39 ten letters of fourteen", matches(x, 0, "abcdefghij"), 0);
        Check.due("39 one letter", matches(x, 0, "x"), 5);
    }

    private static void commonBytes() {
        MailSpool x = Check.loaded(TEXT);
        Check.deliver(x, 0, 1, -1, "a|bb|ccc|bb");
        Check.deliver(x, 0, 2, -1, "bb|dddd|ccc");
        Check.deliver(x, 0, 2, -1, "bb");
        Check.due("40 different messages", x.commonBytes(0, 1), 5);
        Check.due("40 the other way round", x.commonBytes(1, 0), 5);
        Check.due("40 the same user", x.commonBytes(0, 0), 6);
        Check.due("40 nothing", x.commonBytes(0, 2), 0);
        x.delete(1, 1);
        Check.due("40 live ones only", x.commonBytes(0, 1), 2);
        x.delete(0, 0);
        Check.due("40 hidden ones do not count", x.commonBytes(0, 1), 0);
    }

    private static void setQuota() {
        MailSpool x = Check.loaded(TEXT);
        Check.deliver(x, 0, 1, -1, "abcdefgh");
        Check.due("47 previous", x.setQuota(0, 8), 50);
        Check.due("36 new", x.quota(0), 8);
        Check.due("58 undo", x.undoCount(), 3);
        Check.due("47 the same", x.setQuota(0, 8), 8);
        Check.due("58 nothing changed", x.undoCount(), 3);
        Check.due("13 full", Check.deliver(x, 0, 1, -1, "i"), -2);
        Check.due("47 less than the usage", x.setQuota(0, 1), 8);
        Check.due("47 what is there stays", x.usage(0), 8);
        Check.due("47 no event", x.eventCount(), 2);
        Check.due("47 most", x.setQuota(0, 99999), 1);
        Check.due("47 least", x.setQuota(1, 1), 60);
        Check.refused("47 too much", IllegalArgumentException.class, () -> x.setQuota(0, 100000));
        Check.refused("47 nothing", IllegalArgumentException.class, () -> x.setQuota(0, 0));
        Check.refused("47 negative", IllegalArgumentException.class, () -> x.setQuota(0, -1));
        x.undo();
        Check.due("57 quota before", x.quota(1), 60);
    }
}
