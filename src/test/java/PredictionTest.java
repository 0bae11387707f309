/** Methods that predict: what they say comes true if nothing else is done, and asking changes nothing. */
public final class PredictionTest {
    private static final String TEXT = "spool grace %d round %d;class a days 6;class b days 3 keep 2 then a;"
            + "class c days 2 then b;class d days forever;user u class b quota 99;user v class c quota 99;"
            + "user w class a quota 99;hold h user v word tax;hold i user w;";
    private static final int DAYS = 45;

    public static void main(String[] args) {
        for (int grace = 0; grace <= 4; grace += 2) {
            for (int interval = 1; interval <= 7; interval += 3) {
                comesTrue(grace, interval);
            }
        }
        askingChangesNothing();
        nextRounds();
        edgesOfRemovedOn();
        Check.end();
    }

    private static MailSpool busy(int grace, int interval) {
        MailSpool x = Check.loaded(String.format(TEXT, grace, interval));
        String[] contents = {"tax|a", "b|a", "c|c|tax", "d", "e|a|b|tax", "f", "g"};
        int[] readers = {2, 1, 1, 3, 4, 2, 1};
        for (int i = 0; i < contents.length; i++) {
            Check.deliver(x, 0, readers[i], -1, contents[i]);
            if (i % 3 == 1) {
                x.advance(1);
            }
        }
        x.delete(1, 0);
        x.delete(4, 2);
        x.setHold(1, false);
        x.file(5, 1, 0);
        return x;
    }

    private static void comesTrue(int grace, int interval) {
        MailSpool x = busy(grace, interval);
        MailSpool twin = busy(grace, interval);
        int today = x.day();
        int[] live = new int[3];
        for (int user = 0; user < 3; user++) {
            live[user] = twin.writeMailbox(user) == 0 ? 0 : liveOf(twin, user);
        }
        int[] removed = new int[x.storedParts()];
        for (int days = 0; days <= DAYS; days++) {
            String at = " after " + days + " days, grace " + grace + ", round " + interval;
            Check.due("52" + at, x.bytesAfter(days), twin.storedBytes());
            for (int user = 0; user < 3; user++) {
                Check.due("53 user " + user + at, x.goneAfter(user, days), live[user] - liveOf(twin, user));
            }
            for (int part = 0; part < removed.length; part++) {
                removed[part] += isStored(twin, part) ? 1 : 0;
            }
            twin.advance(1);
        }
        boolean foundNone = false;
        boolean foundSome = false;
        for (int part = 0; part < removed.length; part++) {
            int want = removed[part] > DAYS ? -1 : today + removed[part];
            Check.due("50 part " + part + ", grace " + grace + ", round " + interval, x.removedOn(part), want);
            foundNone = foundNone || want == -1;
            foundSome = foundSome || want != -1;
        }
        Check.due("50 some are removed and some are not", foundNone && foundSome, true);
        Check.due("51 some are not removed", x.emptyOn(), -1);
    }

    private static int liveOf(MailSpool x, int user) {
        return x.inClass(user, 0) + x.inClass(user, 1) + x.inClass(user, 2) + x.inClass(user, 3);
    }

    private static boolean isStored(MailSpool x, int part) {
        for (int index = 0; index < x.storedParts(); index++) {
            if (x.storedPart(index) == part) {
                return true;
            }
        }
        return false;
    }

    private static void askingChangesNothing() {
        MailSpool x = busy(2, 4);
        x.writeMailbox(0);
        String before = Snapshot.whole(x);
        for (int i = 0; i < 3; i++) {
            Check.due("asked again", Snapshot.whole(x), before);
        }
        x.advance(3);
        MailSpool twin = busy(2, 4);
        twin.writeMailbox(0);
        twin.advance(3);
        Check.due("as if nobody had asked", Snapshot.whole(x), Snapshot.whole(twin));
    }

    private static void nextRounds() {
        for (int interval = 1; interval <= 30; interval++) {
            MailSpool x = Check.loaded("spool grace 0 round " + interval + ";");
            for (int day = 0; day <= 2 * interval; day++) {
                int want = day + 1;
                while (want % interval != 0) {
                    want++;
                }
                Check.due("49 interval " + interval + ", day " + day, x.nextRound(), want);
                int rounds = x.eventsOf(9);
                x.advance(1);
                Check.due("48 a round on its day", x.eventsOf(9), want == day + 1 ? rounds + 1 : rounds);
                x.undo();
                Check.load(x, "spool grace 0 round " + interval + ";");
                x.advance(day + 1);
            }
        }
    }

    private static void edgesOfRemovedOn() {
        MailSpool x = Check.loaded("spool grace 2 round 5;class a days 3;user u class a quota 99;");
        Check.deliver(x, 0, 1, -1, "m");
        Check.due("50 dead on day 3, just the grace on day 5", x.removedOn(0), 5);
        x.file(0, 0, 0);
        x.advance(1);
        x.file(0, 0, 0);
        Check.due("50 dead on day 4, one day of grace lacks", x.removedOn(0), 10);
        x.delete(0, 0);
        Check.due("50 dead today", x.removedOn(0), 5);
        Check.due("48 not before", x.advance(3), 0);
        Check.due("48 on that day", x.advance(1), 1);
        MailSpool y = Check.loaded("spool grace 0 round 30;class a days 1;user u class a quota 99;");
        y.advance(30);
        Check.deliver(y, 0, 1, -1, "m");
        y.delete(0, 0);
        Check.due("50 the round of today has been", y.removedOn(0), 60);
        Check.due("48 several rounds", y.advance(30), 1);
        Check.deliver(y, 0, 1, -1, "m|n");
        Check.deliver(y, 0, 1, 0, "o");
        y.advance(1);
        Check.due("52 dead ones are there", y.bytesAfter(28), 3);
        Check.due("52 up to the round", y.bytesAfter(29), 0);
        MailSpool z = Check.loaded("spool grace 0 round 2;class a days 3;class b days 9;user u class a quota 99;");
        Check.deliver(z, 0, 1, 0, "m");
        Check.deliver(z, 0, 1, 1, "n|o");
        Check.due("48 the parts of both rounds", z.advance(20), 3);
        Check.due("56 rounds", z.eventsOf(9), 10);
        Check.due("56 removed", z.eventsOf(8), 3);
    }
}
