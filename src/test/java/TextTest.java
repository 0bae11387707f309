import java.util.NoSuchElementException;

/** Promises 1 to 12: a new object, the input buffer, the text and what it says. */
public final class TextTest {
    private static final String S = "spool grace 0 round 1;";
    private static final String C = S + "class a days 1;";
    private static final String U = C + "user u class a quota 5;";

    public static void main(String[] args) {
        newObject();
        append();
        truncate();
        goodTexts();
        spoolErrors();
        classErrors();
        userErrors();
        groupErrors();
        holdErrors();
        tooMany();
        failedLoadChangesNothing();
        successfulLoadStartsAnew();
        find();
        countAndMembers();
        retention();
        ladderDays();
        Check.end();
    }

    private static void newObject() {
        MailSpool x = new MailSpool();
        for (int kind = 0; kind <= 3; kind++) {
            Check.due("1 count " + kind, x.count(kind), 0);
        }
        long[] zeros = {x.day(), x.messageCount(), x.storedParts(), x.storedBytes(), x.deadBytes(), x.logicalBytes(),
                x.eventCount(), x.undoCount(), x.errorCode(), x.bounced(), x.emptyOn(), x.bytesAfter(2000)};
        for (int i = 0; i < zeros.length; i++) {
            Check.due("1 value " + i + " of a new object", zeros[i], 0);
        }
        Check.due("1 position", x.errorPosition(), -1);
        Check.due("1 most shared", x.mostShared(), -1);
        Check.due("1 next round", x.nextRound(), 1);
        x.truncate(0);
        Check.refused("1 input is empty", IllegalArgumentException.class, () -> x.truncate(1));
        Check.refused("1 output is empty", IndexOutOfBoundsException.class, () -> x.outputByte(0));
        Check.refused("1 no class", NoSuchElementException.class, () -> x.retention(0, 0));
        Check.refused("1 no user", NoSuchElementException.class, () -> x.usage(0));
        Check.refused("1 no group", NoSuchElementException.class, () -> x.members(0));
        Check.refused("1 no hold", NoSuchElementException.class, () -> x.isActive(0));
        for (int kind = 0; kind <= 3; kind++) {
            Check.due("7 nothing to find of kind " + kind, find(x, kind, "a"), -1);
            Check.refused("7 empties the buffer", IllegalArgumentException.class, () -> x.truncate(1));
        }
        Check.due("1 load of an empty buffer", x.load(), -4);
        Check.due("48 days without a text", x.advance(1000), 0);
        Check.due("12 day", x.day(), 1000);
        Check.due("56 a round on each day", x.eventsOf(9), 30);
        Check.due("56 days", x.eventsOf(10), 30);
        Check.due("51 empty today", x.emptyOn(), 1000);
        Check.due("58 can be undone", x.undoCount(), 1);
    }

    private static void append() {
        MailSpool x = Check.loaded(C + "user u class a quota 999;");
        Check.due("2 length", x.append(0x00017f80, -1, 0x61622063, Integer.MIN_VALUE, 0x0a0d7b20), 20);
        Check.due("2 delivered", x.deliver(0, 1, -1), 0);
        int[] want = {0, 1, 127, 128, 255, 255, 255, 255, 97, 98, 32, 99, 128, 0, 0, 0, 10, 13, 123, 32};
        for (int i = 0; i < want.length; i++) {
            Check.due("2 byte " + i, x.partByte(0, i), want[i]);
        }
        for (int length = 20; length <= 1200; length += 20) {
            Check.due("2 length", x.append(0, 0, 0, 0, 0), length);
        }
        Check.refused("2 full", IllegalStateException.class, () -> x.append(1, 2, 3, 4, 5));
        x.truncate(1181);
        Check.refused("2 nearly full", IllegalStateException.class, () -> x.append(1, 2, 3, 4, 5));
        x.truncate(1181);
        x.truncate(1180);
        Check.due("2 just full", x.append(1, 2, 3, 4, 5), 1200);
    }

    private static void truncate() {
        MailSpool x = new MailSpool();
        x.append(0x61616161, 0, 0, 0, 0);
        Check.refused("3 too long", IllegalArgumentException.class, () -> x.truncate(21));
        Check.refused("3 negative", IllegalArgumentException.class, () -> x.truncate(-1));
        Check.refused("3 least int", IllegalArgumentException.class, () -> x.truncate(Integer.MIN_VALUE));
        x.truncate(20);
        x.truncate(7);
        Check.refused("3 no longer there", IllegalArgumentException.class, () -> x.truncate(8));
        Check.due("3 goes on behind the rest", x.append(0, 0, 0, 0, 0), 27);
    }

    static void good(String text, int users) {
        MailSpool x = new MailSpool();
        Check.due("4 load of " + text, Check.load(x, text), users);
        Check.due("5 no error", x.errorCode(), 0);
        Check.due("6 no position", x.errorPosition(), -1);
        Check.refused("4 empties the buffer", IllegalArgumentException.class, () -> x.truncate(1));
        Check.due("4 can be undone", x.undoCount(), 1);
    }

    static void bad(String text, int code, int position) {
        MailSpool x = new MailSpool();
        Check.due("4 load of " + text, Check.load(x, text), -4);
        Check.due("5 code of " + text, x.errorCode(), code);
        Check.due("6 position of " + text, x.errorPosition(), position);
        Check.refused("4 empties the buffer", IllegalArgumentException.class, () -> x.truncate(1));
        Check.due("4 cannot be undone", x.undoCount(), 0);
    }

    private static void goodTexts() {
        good(S, 0);
        good(" \n" + S + "\n ", 0);
        good("spool grace0round1;", 0);
        good("spool grace 30 round 30;", 0);
        good("spool grace 000 round 0001;", 0);
        good(U, 1);
        good(C + "class b days forever keep 99 then a;class c days 999 keep 1;class d days 5 then c;", 0);
        good(S + "class abcdef days 1;user abcdef class abcdef quota 1;hold abcdef user abcdef;", 1);
        good(U + "user v class a quota 99999;group g u;group h u,v , g;group i h,h;", 2);
        good(U + "hold h user u from 0 to 9999 word class;hold i user u word abcdefghij;hold j user u from 5 to 5;", 1);
        good(U + "hold h user u word to;", 1);
        good(S + "class name days 1;class n days 2 then name;user x class n quota 7;", 1);
    }

    private static void spoolErrors() {
        bad("", 1, 0);
        bad("  \n", 1, 3);
        bad(";", 1, 0);
        bad("user", 1, 0);
        bad("hold h", 1, 0);
        bad("spol grace 1 round 1;", 1, 0);
        bad("spools grace 1 round 1;", 1, 0);
        bad("spool", 1, 5);
        bad("spool ", 1, 6);
        bad("spool 1", 1, 6);
        bad("spool grace x round 1;", 1, 12);
        bad("spool grace -1 round 1;", 1, 12);
        bad("spool grace 31 round 1;", 2, 12);
        bad("spool grace 99999999999999999999 round 1;", 2, 12);
        bad("spool grace 4294967296 round 1;", 2, 12);
        bad("spool grace 30 round 0;", 2, 21);
        bad("spool grace 30 round 31;", 2, 21);
        bad("spool grace 30 30;", 1, 15);
        bad("spool grace 1 round 1", 1, 21);
        bad("spool grace 1 round 1,", 1, 21);
        bad("spool\tgrace 1 round 1;", 1, 5);
        bad("Spool grace 1 round 1;", 1, 0);
        bad("\u00e9", 1, 0);
        bad(S + S, 1, 22);
        bad(S + ";", 1, 22);
        bad(S + "x", 1, 22);
        bad(S + "7", 1, 22);
        bad(S + "days", 1, 22);
    }

    private static void classErrors() {
        bad(S + "class", 1, 27);
        bad(S + "class 1", 1, 28);
        bad(S + "class days days 1;", 1, 28);
        bad(S + "class word days 1;", 1, 28);
        bad(S + "class abcdefg days 1;", 1, 28);
        bad(S + "class a", 1, 29);
        bad(S + "class a 1;", 1, 30);
        bad(S + "class a days;", 1, 34);
        bad(S + "class a days 0;", 2, 35);
        bad(S + "class a days 1000;", 2, 35);
        bad(S + "class a days then;", 1, 35);
        bad(S + "class a days 1 keep;", 1, 41);
        bad(S + "class a days 1 keep 0;", 2, 42);
        bad(S + "class a days 1 keep 100;", 2, 42);
        bad(S + "class a days 1 keep x;", 1, 42);
        bad(S + "class a days 1 then a;", 3, 42);
        bad(S + "class a days 1 class b days 1;", 1, 37);
        bad(S + "class a days 1 then b;", 3, 42);
        bad(S + "class a days 1 then then;", 1, 42);
        bad(C + "class b days 1 then a keep 1;", 1, 37 + 22);
        bad(C + "class b days 1 keep 1 keep 1;", 1, 37 + 22);
        bad(C + "class b days 1 then a then a;", 1, 37 + 22);
        bad(C + "class a", 3, 37 + 6);
        bad(C + "class b days forever 1;", 1, 37 + 21);
        bad(C + "class b days forever", 1, 37 + 20);
    }

    private static void userErrors() {
        bad(S + "user u class a quota 5;", 4, 22);
        bad(C + "user", 1, 41);
        bad(C + "user user class a quota 5;", 1, 42);
        bad(C + "user u quota 5;", 1, 44);
        bad(C + "user u class b quota 5;", 3, 50);
        bad(C + "user u class u quota 5;", 3, 50);
        bad(C + "user u class quota;", 1, 50);
        bad(C + "user u class a quota 0;", 2, 58);
        bad(C + "user u class a quota 100000;", 2, 58);
        bad(C + "user u class a quota;", 1, 57);
        bad(C + "user u class a 5;", 1, 52);
        bad(U + "user u", 3, 60 + 5);
        bad(U + "group g u;user g class a quota 5;", 3, 60 + 15);
        bad(C + "user u class a quota 5 class b days 1;", 1, 60);
        bad(U + "user v class a quota 5", 1, 60 + 22);
    }

    private static void groupErrors() {
        bad(S + "group g u;", 4, 22);
        bad(C + "group g u;", 4, 37);
        bad(U + "group", 1, 65);
        bad(U + "group u u;", 3, 66);
        bad(U + "group g;", 1, 67);
        bad(U + "group g g;", 3, 68);
        bad(U + "group g v;", 3, 68);
        bad(U + "group g a;", 3, 68);
        bad(U + "group g u u;", 1, 70);
        bad(U + "group g u,;", 1, 70);
        bad(U + "group g u,v;", 3, 70);
        bad(U + "group g ,u;", 1, 68);
        bad(U + "group g keep;", 1, 68);
        bad(U + "group g u;group g u;", 3, 76);
        bad(U + "group g u", 1, 69);
        bad(U + "group g u hold h user u;", 1, 70);
    }

    private static void holdErrors() {
        bad(S + "hold h user u;", 4, 22);
        bad(C + "hold h user u;", 4, 37);
        bad(U + "hold", 1, 64);
        bad(U + "hold from user u;", 1, 65);
        bad(U + "hold h u;", 1, 67);
        bad(U + "hold h user;", 1, 71);
        bad(U + "hold h user v;", 3, 72);
        bad(U + "group g u;hold h user g;", 3, 82);
        bad(U + "hold h user u from;", 1, 78);
        bad(U + "hold h user u from x to 4;", 1, 79);
        bad(U + "hold h user u from 10000 to 4;", 2, 79);
        bad(U + "hold h user u from 5;", 1, 80);
        bad(U + "hold h user u from 5 5;", 1, 81);
        bad(U + "hold h user u from 5 to;", 1, 83);
        bad(U + "hold h user u from 5 to 4;", 2, 84);
        bad(U + "hold h user u from 5 to 10000;", 2, 84);
        bad(U + "hold h user u to 5;", 1, 74);
        bad(U + "hold h user u word;", 1, 78);
        bad(U + "hold h user u word 5;", 1, 79);
        bad(U + "hold h user u word abcdefghijk;", 1, 79);
        bad(U + "hold h user u word a b;", 1, 81);
        bad(U + "hold h user u word a from 1 to 2;", 1, 81);
        bad(U + "hold h user u;hold h", 3, 79);
        bad(U + "hold h user u class b days 1;", 1, 74);
        bad(U + "hold h user u word a class b days 1;", 1, 81);
        bad(U + "hold h user u from 1 to 2 class b days 1;", 1, 86);
    }

    private static String many(String from, String before, String after, int times) {
        StringBuilder all = new StringBuilder(from);
        for (int i = 0; i < times; i++) {
            all.append(before).append((char) ('b' + i)).append(after);
        }
        return all.toString();
    }

    private static void tooMany() {
        String classes = many(S, "class ", " days 1;", 8);
        good(classes, 0);
        bad(classes + "class", 4, classes.length());
        String users = many(C, "user ", " class a quota 5;", 10);
        good(users, 10);
        bad(users + "user b", 4, users.length());
        String groups = many(U, "group ", " u;", 6);
        good(groups, 1);
        bad(groups + " group", 4, groups.length() + 1);
        String holds = many(U, "hold ", " user u;", 6);
        good(holds, 1);
        bad(holds + "hold 1", 4, holds.length());
    }

    private static void failedLoadChangesNothing() {
        MailSpool x = Check.loaded(U);
        Check.deliver(x, 0, 1, -1, "abc");
        Check.due("4 fails", Check.load(x, C), 0);
        Check.due("4 undone", x.undo(), 2);
        Check.due("4 fails", Check.load(x, C + "x"), -4);
        Check.due("4 users stay", x.count(1), 1);
        Check.due("4 messages stay", x.messageCount(), 1);
        Check.due("4 events stay", x.eventCount(), 1);
        Check.due("4 undo stays", x.undoCount(), 2);
        Check.due("5 code", x.errorCode(), 1);
        Check.due("6 position", x.errorPosition(), 37);
        Check.due("5 undo leaves the parse error", x.undo(), 1);
        Check.due("5 code", x.errorCode(), 1);
        Check.due("4 fails again", x.load(), -4);
        Check.due("6 position", x.errorPosition(), 0);
        Check.due("4 succeeds", Check.load(x, U), 1);
        Check.due("5 code", x.errorCode(), 0);
        Check.due("6 position", x.errorPosition(), -1);
    }

    private static void successfulLoadStartsAnew() {
        MailSpool x = Check.loaded(U + "hold h user u;");
        Check.deliver(x, 0, 1, -1, "abc");
        Check.deliver(x, 0, 1, -1, "abc");
        x.advance(3);
        x.setHold(0, false);
        x.setQuota(0, 77);
        Check.due("4 load", Check.load(x, U + "hold h user u;"), 1);
        Check.due("4 day", x.day(), 0);
        Check.due("4 messages", x.messageCount(), 0);
        Check.due("4 events", x.eventCount(), 0);
        Check.due("4 parts", x.storedParts(), 0);
        Check.due("4 hold", x.isActive(0), true);
        Check.due("4 quota", x.quota(0), 5);
        Check.due("4 bounced", x.bounced(), 0);
        Check.due("4 undo", x.undoCount(), 6);
        Check.due("4 numbers from 0", Check.deliver(x, 0, 1, -1, "abc"), 0);
        Check.due("4 parts from 0", x.partOf(0, 0), 0);
        Check.due("57 undo of the delivery", x.undo(), 5);
        Check.due("57 undo of the load", x.undo(), 4);
        Check.due("57 day", x.day(), 3);
        Check.due("57 hold", x.isActive(0), false);
        Check.due("57 quota", x.quota(0), 77);
    }

    private static int find(MailSpool x, int kind, String name) {
        Check.fill(x, name);
        return x.find(kind);
    }

    private static void find() {
        MailSpool x = Check.loaded(U + "class abcdef days 1;user v class a quota 5;group g u;group u"
                + "x v;hold a user u;hold b user v;");
        Check.due("7 class", find(x, 0, "a"), 0);
        Check.due("7 class", find(x, 0, "abcdef"), 1);
        Check.due("7 user", find(x, 1, "v"), 1);
        Check.due("7 group", find(x, 2, "ux"), 1);
        Check.due("7 hold", find(x, 3, "b"), 1);
        Check.due("7 hold", find(x, 3, "a"), 0);
        Check.due("7 a user is no group", find(x, 2, "u"), -1);
        Check.due("7 a group is no user", find(x, 1, "g"), -1);
        Check.due("7 nothing", find(x, 0, ""), -1);
        Check.due("7 with a space", find(x, 0, "a "), -1);
        Check.due("7 longer", find(x, 0, "abcdefa"), -1);
        Check.due("7 much longer", find(x, 0, "abcdefabcdefabcdef"), -1);
        Check.due("7 shorter", find(x, 0, "abcde"), -1);
        Check.due("7 keyword", find(x, 0, "class"), -1);
        Check.refused("7 empties the buffer", IllegalArgumentException.class, () -> x.truncate(1));
        Check.fill(x, "v");
        Check.refused("7 kind 4", IllegalArgumentException.class, () -> x.find(4));
        Check.refused("7 kind -1", IllegalArgumentException.class, () -> x.find(-1));
        Check.due("7 the buffer stays", x.find(1), 1);
    }

    private static void countAndMembers() {
        MailSpool x = Check.loaded(U + "user v class a quota 5;user w class a quota 5;group g w;group h u,g;group i v;"
                + "group j v,v;hold k user u;hold l user u;");
        int[] want = {1, 3, 4, 2};
        for (int kind = 0; kind <= 3; kind++) {
            Check.due("8 count of kind " + kind, x.count(kind), want[kind]);
        }
        Check.refused("8 kind 4", IllegalArgumentException.class, () -> x.count(4));
        Check.refused("8 kind -1", IllegalArgumentException.class, () -> x.count(-1));
        int[] sets = {4, 5, 2, 2};
        for (int group = 0; group < sets.length; group++) {
            Check.due("9 members of " + group, x.members(group), sets[group]);
        }
        Check.refused("9 group 4", NoSuchElementException.class, () -> x.members(4));
        Check.refused("9 group -1", NoSuchElementException.class, () -> x.members(-1));
    }

    private static void retention() {
        MailSpool x = Check.loaded(S + "class a days 999;class b days forever keep 99;class c days 1 keep 3 then b;");
        int[][] want = {{999, 0, -1}, {-1, 99, -1}, {1, 3, 1}};
        for (int number = 0; number < want.length; number++) {
            for (int what = 0; what <= 2; what++) {
                Check.due("10 class " + number + " value " + what, x.retention(number, what), want[number][what]);
            }
        }
        Check.refused("10 class 3", NoSuchElementException.class, () -> x.retention(3, 0));
        Check.refused("10 class -1, first of two", NoSuchElementException.class, () -> x.retention(-1, 3));
        Check.refused("10 value 3", IllegalArgumentException.class, () -> x.retention(0, 3));
        Check.refused("10 value -1", IllegalArgumentException.class, () -> x.retention(0, -1));
    }

    private static void ladderDays() {
        MailSpool x = Check.loaded(S + "class a days 10;class b days 20 keep 5 then a;class c days 3 then b;"
                + "class d days forever then a;class e days 4 then d;class f days 7;");
        int[] want = {10, 30, 33, -1, -1, 7};
        for (int number = 0; number < want.length; number++) {
            Check.due("11 ladder of " + number, x.ladderDays(number), want[number]);
        }
        Check.refused("11 class 6", NoSuchElementException.class, () -> x.ladderDays(6));
        Check.refused("11 class -1", NoSuchElementException.class, () -> x.ladderDays(-1));
        Check.due("12 day", x.day(), 0);
        x.advance(1000);
        x.advance(7);
        Check.due("12 day", x.day(), 1007);
    }
}
