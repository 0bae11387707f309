import java.util.NoSuchElementException;

/** Everything at its greatest number: users, classes, groups, holds, messages, parts, events, days. */
public final class CapacityTest {
    private static final String NAMES = "bcdefghijk";

    public static void main(String[] args) {
        fullOfMessages();
        tenUsersLeave();
        eightClasses();
        keepNinetyNine();
        keepMoreThanThereAre();
        sixGroups();
        sixHolds();
        holdsWithoutEnd();
        storeOfEightThousand();
        contentOfAllBytes();
        journalOfOneCall();
        newLoadForgetsRows();
        Check.end();
    }

    private static String tenUsers(String first, String quota) {
        StringBuilder text = new StringBuilder(first);
        for (int user = 0; user < 10; user++) {
            text.append("user ").append(NAMES.charAt(user)).append(" class a quota ").append(quota).append(';');
        }
        return text.toString();
    }

    private static String part(int number) {
        return String.valueOf(1000 + number).substring(1);
    }

    /** 120 messages of 4 parts of 3 bytes each, none equal, to all of ten users. */
    private static MailSpool full() {
        MailSpool x = Check.loaded(tenUsers("spool grace 0 round 1;class a days 5;class c days 3;", "99999"));
        for (int message = 0; message < 120; message++) {
            StringBuilder content = new StringBuilder();
            for (int place = 0; place < 4; place++) {
                content.append(place == 0 ? "" : "|").append(part(message * 4 + place));
            }
            Check.due("13 message", Check.deliver(x, 9, 1023, -1, content.toString()), message);
        }
        return x;
    }

    private static void fullOfMessages() {
        MailSpool x = full();
        Check.due("15 messages", x.messageCount(), 120);
        Check.due("26 parts", x.storedParts(), 480);
        Check.due("31 bytes", x.storedBytes(), 1440);
        Check.due("33 usages", x.logicalBytes(), 14400);
        for (int number = 0; number < 480; number++) {
            Check.due("17 part of a place", x.partOf(number / 4, number % 4), number);
            Check.due("27 index", x.storedPart(number), number);
            Check.due("28 first message", x.part(number, 3), number / 4);
            Check.due("29 last byte", x.partByte(number, 2), '0' + number % 10);
        }
        Check.refused("27 index 480", NoSuchElementException.class, () -> x.storedPart(480));
        Check.refused("28 part 480", NoSuchElementException.class, () -> x.part(480, 0));
        double share = 0;
        for (int part = 0; part < 480; part++) {
            share += 3.0 / 10;
        }
        for (int user = 0; user < 10; user++) {
            Check.due("35 usage", x.usage(user), 1440);
            Check.due("37 share", x.fairShare(user), share);
            Check.due("38 in class", x.inClass(user, 0), 120);
            Check.due("40 common", x.commonBytes(user, 9 - user), 1440);
            Check.due("59 mailbox", x.writeMailbox(user), 10 * 6 + 90 * 7 + 20 * 8);
        }
        for (int message = 0; message < 120; message++) {
            Check.due("18 readers", x.readers(message), 1023);
            Check.due("20 first user", x.state(message, 0), 0);
            Check.due("20 last user", x.state(message, 9), 0);
        }
        Check.due("42 last reference", x.delete(119, 9), 3);
        Check.due("18 all but the last user", x.readers(119), 511);
        Check.due("18 another message", x.readers(118), 1023);
        Check.due("42 first reference", x.delete(0, 0), 3);
        Check.due("18 all but the first user", x.readers(0), 1022);
        Check.due("41 last message", x.file(119, 8, 1), 0);
        Check.due("21 last message", x.classOf(119, 8), 1);
        Check.due("21 its other users", x.classOf(119, 7), 0);
    }

    private static void tenUsersLeave() {
        MailSpool x = full();
        x.file(119, 9, 1);
        x.file(60, 0, 1);
        Check.due("51 empty", x.emptyOn(), 5);
        Check.due("52 all are there", x.bytesAfter(4), 1440);
        Check.due("53 the last user, one message", x.goneAfter(9, 4), 1);
        Check.due("53 the last user, all messages", x.goneAfter(9, 5), 120);
        x.advance(3);
        Check.due("20 gone", x.state(119, 9), 3);
        Check.due("20 gone", x.state(60, 0), 3);
        Check.due("18 others", x.readers(119), 511);
        Check.due("18 others", x.readers(60), 1022);
        Check.due("48 all", x.advance(2), 480);
        Check.due("26 none", x.storedParts(), 0);
        Check.due("55 the last part", x.event(57, 2), 479);
        Check.due("55 the round", x.event(58, 2), 480);
        for (int message = 0; message < 120; message++) {
            Check.due("18 nobody", x.readers(message), 0);
        }
        Check.due("17 parts that have been removed", x.partOf(119, 3), 479);
    }

    private static void eightClasses() {
        StringBuilder text = new StringBuilder("spool grace 0 round 1;class b days 999;");
        for (int i = 1; i < 8; i++) {
            text.append("class ").append(NAMES.charAt(i)).append(" days 999 then ").append(NAMES.charAt(i - 1)).append(';');
        }
        MailSpool x = Check.loaded(text + "user u class i quota 9;");
        for (int i = 0; i < 8; i++) {
            Check.due("11 ladder of " + (i + 1), x.ladderDays(i), 999 * (i + 1));
        }
        x.advance(1);
        Check.deliver(x, 0, 1, -1, "m");
        Check.due("23 eight classes", x.expiresOn(0, 0), 1 + 7992);
        for (int step = 1; step < 8; step++) {
            x.advance(998);
            Check.due("21 the day before", x.classOf(0, 0), 8 - step);
            x.advance(1);
            Check.due("21 the next class", x.classOf(0, 0), 7 - step);
            Check.due("22 entered", x.enteredOn(0, 0), 1 + 999 * step);
            Check.due("23 it stays", x.expiresOn(0, 0), 1 + 7992);
        }
        Check.due("51 within 2000 days", x.emptyOn(), 1 + 7992);
        Check.due("48 the last day", x.advance(998), 0);
        Check.due("48 expired", x.advance(1), 1);
        MailSpool y = Check.loaded(text.toString().replace("class b days 999", "class b days forever") + "user u class i quota 9;");
        Check.due("11 the last of eight is forever", y.ladderDays(7), -1);
        Check.deliver(y, 0, 1, -1, "m");
        Check.due("23 forever", y.expiresOn(0, 0), -1);
    }

    private static void keepNinetyNine() {
        MailSpool x = Check.loaded("spool grace 0 round 1;class a days 2 keep 99;user u class a quota 999;");
        for (int message = 0; message < 101; message++) {
            Check.deliver(x, 0, 1, -1, "m");
        }
        Check.due("24 the hundred and first from above", x.isKept(0, 0), false);
        Check.due("24 the hundredth from above", x.isKept(1, 0), false);
        Check.due("24 the ninety-ninth from above", x.isKept(2, 0), true);
        Check.due("24 the newest", x.isKept(100, 0), true);
        Check.due("53 two go", x.goneAfter(0, 2000), 2);
        x.advance(2);
        Check.due("38 ninety-nine stay", x.inClass(0, 0), 99);
        Check.deliver(x, 0, 1, -1, "m");
        Check.due("24 pushed out", x.isKept(2, 0), false);
        Check.due("20 live up to the next day", x.state(2, 0), 0);
        x.advance(1);
        Check.due("20 gone", x.state(2, 0), 3);
        Check.due("20 kept", x.state(3, 0), 0);
    }

    private static void keepMoreThanThereAre() {
        MailSpool x = Check.loaded("spool grace 0 round 1;class a days 1 keep 2;class b days 1;user u class a quota 9;user v class b quota 9;");
        Check.deliver(x, 0, 3, -1, "m");
        x.advance(10);
        Check.due("24 one of two", x.isKept(0, 0), true);
        Check.due("20 kept", x.state(0, 0), 0);
        Check.due("20 a class that keeps none", x.state(0, 1), 3);
        Check.deliver(x, 0, 1, -1, "m");
        Check.due("24 two of two", x.isKept(0, 0), true);
        Check.deliver(x, 0, 1, -1, "m");
        Check.due("24 the third", x.isKept(0, 0), false);
        Check.due("24 the second", x.isKept(1, 0), true);
    }

    private static void sixGroups() {
        StringBuilder text = new StringBuilder(tenUsers("spool grace 0 round 1;class a days 5;", "9"));
        text.append("group l b,c,d,e,f,g,h,i,j,k;group m k;group n b;group o m,n;group p o,d,d;group q p,l;");
        MailSpool x = Check.loaded(text.toString());
        int[] want = {1023, 512, 1, 513, 517, 1023};
        for (int group = 0; group < 6; group++) {
            Check.due("9 group " + group, x.members(group), want[group]);
        }
        Check.due("8 groups", x.count(2), 6);
        Check.due("8 users", x.count(1), 10);
        Check.fill(x, "k");
        Check.due("7 the last user", x.find(1), 9);
        Check.fill(x, "q");
        Check.due("7 the last group", x.find(2), 5);
        Check.due("13 to a group", Check.deliver(x, 0, x.members(4), -1, "m"), 0);
        Check.due("18 readers", x.readers(0), 517);
    }

    private static void sixHolds() {
        StringBuilder text = new StringBuilder("spool grace 0 round 1;class a days 5;user u class a quota 99;");
        for (int hold = 0; hold < 6; hold++) {
            text.append("hold ").append(NAMES.charAt(hold)).append(" user u;");
        }
        MailSpool x = Check.loaded(text.toString());
        Check.deliver(x, 0, 1, -1, "m");
        Check.deliver(x, 0, 1, -1, "n");
        Check.due("25 all six", x.holdsOn(0, 0), 63);
        Check.due("42 hidden", x.delete(0, 0), 1);
        for (int hold = 0; hold < 5; hold++) {
            Check.due("46 others cover it", x.heldOnlyBy(hold), 0);
            Check.due("45 others cover it", x.setHold(hold, false), 0);
            Check.due("25 what is left", x.holdsOn(0, 0), 63 & ~((2 << hold) - 1));
        }
        Check.due("46 the last one", x.heldOnlyBy(5), 1);
        Check.due("45 the last one", x.setHold(5, false), 1);
        Check.due("25 none", x.holdsOn(0, 0), 0);
        Check.due("42 nothing holds", x.delete(1, 0), 3);
        Check.due("45 active again", x.setHold(5, true), 0);
        Check.due("25 also what is gone", x.holdsOn(0, 0), 32);
        Check.due("20 does not come back", x.state(0, 0), 3);
    }

    /** Without from a hold is for all days; its last day is 9999 at most otherwise. */
    private static void holdsWithoutEnd() {
        MailSpool x = Check.loaded("spool grace 0 round 1;class a days forever;user u class a quota 99;hold h user u;"
                + "hold i user u from 0 to 9999;hold j user u from 9999 to 9999;hold k user u from 0 to 0;hold l user u from 1 to 9998;");
        int[] days = {0, 1, 9998, 9999, 10000, 20000};
        int[] want = {1 + 2 + 8, 1 + 2 + 16, 1 + 2 + 16, 1 + 2 + 4, 1, 1};
        for (int i = 0; i < days.length; i++) {
            while (x.day() < days[i]) {
                x.advance(Math.min(1000, days[i] - x.day()));
            }
            Check.deliver(x, 0, 1, -1, "m");
            Check.due("16 day", x.message(i, 1), days[i]);
            Check.due("25 day " + days[i], x.holdsOn(i, 0), want[i]);
        }
        Check.due("25 the day of the message counts, not the present one", x.holdsOn(0, 0), want[0]);
    }

    private static void storeOfEightThousand() {
        MailSpool x = Check.loaded("spool grace 0 round 9;class a days 5;user u class a quota 99999;user v class a quota 1;");
        for (int i = 0; i < 39; i++) {
            Check.deliver(x, 0, 1, -1, (char) ('A' + i) + Check.repeat("z", 199));
        }
        Check.deliver(x, 0, 1, -1, "n" + Check.repeat("z", 98) + "|o" + Check.repeat("z", 99));
        Check.due("31 a byte less", x.storedBytes(), 7999);
        Check.fill(x, "pp");
        Check.refused("13 a byte too much", IllegalStateException.class, () -> x.deliver(0, 1, -1));
        Check.fill(x, "p|pp");
        Check.refused("13 two bytes too much", IllegalStateException.class, () -> x.deliver(0, 1, -1));
        Check.fill(x, "p|q");
        Check.refused("13 a byte too much", IllegalStateException.class, () -> x.deliver(0, 1, -1));
        Check.due("13 just full, though it bounces", Check.deliver(x, 0, 2, -1, "p|p"), -2);
        Check.due("31 nothing is stored", x.storedBytes(), 7999);
        Check.due("13 just full", Check.deliver(x, 0, 3, -1, "p|p"), 40);
        Check.due("31 full", x.storedBytes(), 8000);
        Check.due("14 v", x.bounced(), 2);
        Check.due("13 a stored part needs no room", Check.deliver(x, 0, 2, -1, "p"), 41);
        x.delete(40, 0);
        x.delete(41, 1);
        Check.due("32 a dead part", x.deadBytes(), 1);
        Check.fill(x, "q");
        Check.refused("13 the dead part counts", IllegalStateException.class, () -> x.deliver(0, 1, -1));
        Check.due("13 and is kept again", Check.deliver(x, 0, 1, -1, "p"), 42);
        Check.due("32 no dead part", x.deadBytes(), 0);
        Check.due("31 full", x.storedBytes(), 8000);
    }

    private static void contentOfAllBytes() {
        MailSpool x = Check.loaded("spool grace 0 round 9;class a days 5;user u class a quota 99999;");
        StringBuilder low = new StringBuilder();
        StringBuilder high = new StringBuilder();
        for (int i = 0; i < 256; i++) {
            if (i != '|') {
                (i < 128 ? low : high).append((char) i);
            }
        }
        Check.due("13 each byte but the one that separates", Check.deliver(x, 0, 1, -1, low + "|" + high), 0);
        long lowHash = -3750763034362895579L;
        for (int i = 0; i < low.length(); i++) {
            Check.due("29 byte", x.partByte(0, i), low.charAt(i));
            lowHash = (lowHash ^ low.charAt(i)) * 1099511628211L;
        }
        long highHash = -3750763034362895579L;
        for (int i = 0; i < high.length(); i++) {
            Check.due("29 byte", x.partByte(1, i), high.charAt(i));
            highHash = (highHash ^ high.charAt(i)) * 1099511628211L;
        }
        Check.due("30 bytes up to 127", x.digest(0), lowHash);
        Check.due("30 bytes from 128", x.digest(1), highHash);
        String[] unequal = {"a", "A", "a ", " a", "a\n", "aa", "\u0001", "\u0081", "a\u0000", "\u0000a", "ab", "ba"};
        for (int i = 0; i < unequal.length; i++) {
            Check.deliver(x, 0, 1, -1, unequal[i]);
            Check.due("13 an unequal part", x.partOf(i + 1, 0), i + 2);
        }
        for (int i = 0; i < unequal.length; i++) {
            int message = Check.deliver(x, 0, 1, -1, unequal[i]);
            Check.due("13 an equal part", x.partOf(message, 0), i + 2);
        }
    }

    /** More than sixty events of one call: the latest stay. */
    private static void journalOfOneCall() {
        MailSpool x = Check.loaded("spool grace 0 round 9;class a days 5;user u class a quota 999;hold h user u;");
        for (int message = 0; message < 70; message++) {
            Check.deliver(x, 0, 1, -1, "m");
            x.delete(message, 0);
        }
        Check.due("54 sixty", x.eventCount(), 60);
        Check.due("56 deliveries", x.eventsOf(1), 30);
        Check.due("56 hidden", x.eventsOf(5), 30);
        Check.due("45 all", x.setHold(0, false), 70);
        Check.due("54 sixty", x.eventCount(), 60);
        Check.due("56 gone", x.eventsOf(4), 59);
        Check.due("56 dead by the last one", x.eventsOf(6), 1);
        Check.due("55 the oldest that is left", x.event(0, 2), 11);
        Check.due("55 the last message", x.event(58, 2), 69);
        Check.due("55 its part", x.event(59, 1), 6);
        Check.refused("55 event 60", NoSuchElementException.class, () -> x.event(60, 0));
        int sum = 0;
        for (int kind = 1; kind <= 10; kind++) {
            sum += x.eventsOf(kind);
        }
        Check.due("56 together", sum, 60);
        x.advance(1);
        Check.due("56 a day", x.eventsOf(10), 1);
        Check.due("56 one less", x.eventsOf(4), 58);
    }

    private static void newLoadForgetsRows() {
        String text = "spool grace 3 round 2;class a days 5;user u class a quota 999;user v class a quota 999;";
        MailSpool x = Check.loaded(text);
        Check.deliver(x, 0, 3, -1, "a|b|c");
        Check.deliver(x, 0, 3, -1, "a|b|c");
        Check.deliver(x, 0, 3, -1, "d");
        x.delete(2, 0);
        x.delete(2, 1);
        x.advance(1);
        Check.load(x, text);
        for (int kind = 1; kind <= 10; kind++) {
            Check.due("56 none of kind " + kind, x.eventsOf(kind), 0);
        }
        Check.due("15 no message", x.messageCount(), 0);
        Check.refused("16 no message", NoSuchElementException.class, () -> x.message(0, 0));
        Check.refused("20 no reference", NoSuchElementException.class, () -> x.state(0, 0));
        Check.refused("28 no part", NoSuchElementException.class, () -> x.part(0, 0));
        Check.due("32 nothing is dead", x.deadBytes(), 0);
        Check.due("48 nothing to remove", x.advance(4), 0);
        Check.deliver(x, 1, 2, -1, "z|yy|x|w");
        Check.deliver(x, 1, 2, -1, "w");
        int[] keepers = {1, 1, 1, 2};
        for (int part = 0; part < 4; part++) {
            Check.due("27 index", x.storedPart(part), part);
            Check.due("28 kept messages", x.part(part, 1), keepers[part]);
            Check.due("28 not dead", x.part(part, 2), -1);
            Check.due("28 first message", x.part(part, 3), 0);
        }
        Check.due("34 most shared", x.mostShared(), 3);
        Check.refused("20 not to u", NoSuchElementException.class, () -> x.state(0, 0));
        Check.due("22 entered", x.enteredOn(0, 1), 4);
    }
}
