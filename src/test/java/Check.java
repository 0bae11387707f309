/** Counts what is as due and what is not, and helps to fill the buffers of a spool. */
final class Check {
    private static int good = 0;
    private static int wrong = 0;

    private Check() {
    }

    interface Call {
        void run();
    }

    static void due(String what, long got, long want) {
        note(got == want, what, String.valueOf(got), String.valueOf(want));
    }

    static void due(String what, double got, double want) {
        note(got == want, what, String.valueOf(got), String.valueOf(want));
    }

    static void due(String what, boolean got, boolean want) {
        note(got == want, what, String.valueOf(got), String.valueOf(want));
    }

    static void due(String what, String got, String want) {
        note(got.equals(want), what, got, want);
    }

    /** The very class counts: a machine's exception is mostly a subclass of the one that is due. */
    static void refused(String what, Class<? extends RuntimeException> want, Call call) {
        String got = "nothing";
        try {
            call.run();
        } catch (RuntimeException e) {
            got = e.getClass().getName();
        }
        note(got.equals(want.getName()), what, got, want.getName());
    }

    private static void note(boolean right, String what, String got, String want) {
        if (right) {
            good++;
        } else {
            wrong++;
            System.out.println(what + " answered " + got + ", due is " + want);
        }
    }

    static void end() {
        System.out.println(good + " answers as due, " + wrong + " not");
        if (wrong != 0 || good == 0) {
            System.exit(1);
        }
    }

    /** Replaces the content of the input buffer; the characters are bytes. */
    static void fill(MailSpool spool, String text) {
        spool.truncate(0);
        int[] four = new int[5];
        for (int from = 0; from < text.length(); from += 20) {
            for (int i = 0; i < 5; i++) {
                four[i] = 0;
                for (int k = 0; k < 4; k++) {
                    int at = from + 4 * i + k;
                    four[i] = four[i] << 8 | (at < text.length() ? text.charAt(at) & 255 : ' ');
                }
            }
            spool.append(four[0], four[1], four[2], four[3], four[4]);
        }
        spool.truncate(text.length());
    }

    static int load(MailSpool spool, String text) {
        fill(spool, text);
        return spool.load();
    }

    static MailSpool loaded(String text) {
        MailSpool spool = new MailSpool();
        if (load(spool, text) < 0) {
            note(false, "load of " + text, "error " + spool.errorCode() + " at " + spool.errorPosition(), "no error");
        }
        return spool;
    }

    static int deliver(MailSpool spool, int sender, int recipients, int retention, String content) {
        fill(spool, content);
        return spool.deliver(sender, recipients, retention);
    }

    static String repeat(String text, int times) {
        return text.repeat(times);
    }

    /** All events, each as day:kind:object. */
    static String events(MailSpool spool) {
        return eventsFrom(spool, 0);
    }

    static String eventsFrom(MailSpool spool, int first) {
        StringBuilder all = new StringBuilder();
        for (int i = first; i < spool.eventCount(); i++) {
            all.append(i == first ? "" : " ").append(spool.event(i, 0)).append(':')
                    .append(spool.event(i, 1)).append(':').append(spool.event(i, 2));
        }
        return all.toString();
    }

    static String output(MailSpool spool, int length) {
        StringBuilder all = new StringBuilder();
        for (int i = 0; i < length; i++) {
            all.append((char) spool.outputByte(i));
        }
        return all.toString();
    }
}
