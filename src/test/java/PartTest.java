import java.util.NoSuchElementException;

/** Promises 26 to 34: the parts in the store. */
public final class PartTest {
    private static final String TEXT = "spool grace 2 round 5;class a days 10;class b days 4 then a;"
            + "user u class a quota 99;user v class b quota 99;user w class a quota 8;hold h user w;";

    public static void main(String[] args) {
        store();
        part();
        keptAgain();
        bytesOfParts();
        digest();
        mostShared();
        Check.end();
    }

    private static void store() {
        MailSpool x = Check.loaded(TEXT);
        Check.refused("27 empty", NoSuchElementException.class, () -> x.storedPart(0));
        Check.deliver(x, 0, 1, -1, "abc|de");
        Check.deliver(x, 0, 3, -1, "de|f");
        Check.deliver(x, 0, 2, -1, "ghij");
        Check.due("26 parts", x.storedParts(), 4);
        Check.due("31 bytes", x.storedBytes(), 10);
        Check.due("32 dead bytes", x.deadBytes(), 0);
        Check.due("33 usages", x.logicalBytes(), 5 + 3 + 3 + 4);
        x.delete(0, 0);
        x.delete(1, 0);
        Check.due("26 dead ones included", x.storedParts(), 4);
        Check.due("31 dead ones included", x.storedBytes(), 10);
        Check.due("32 dead bytes", x.deadBytes(), 3);
        Check.due("33 usages", x.logicalBytes(), 3 + 4);
        x.delete(2, 1);
        Check.due("32 dead bytes", x.deadBytes(), 7);
        x.advance(5);
        Check.due("26 removed", x.storedParts(), 2);
        Check.due("31 removed", x.storedBytes(), 3);
        Check.due("32 removed", x.deadBytes(), 0);
        Check.due("27 first", x.storedPart(0), 1);
        Check.due("27 second", x.storedPart(1), 2);
        Check.refused("27 third", NoSuchElementException.class, () -> x.storedPart(2));
        Check.refused("27 index -1", NoSuchElementException.class, () -> x.storedPart(-1));
        Check.deliver(x, 0, 1, -1, "abc");
        Check.due("27 a new number", x.storedPart(2), 4);
    }

    private static void part() {
        MailSpool x = Check.loaded(TEXT);
        x.advance(1);
        Check.deliver(x, 0, 5, -1, "abc|de|abc");
        Check.deliver(x, 0, 1, -1, "f|de");
        Check.due("28 size", x.part(0, 0), 3);
        Check.due("28 a message counts once", x.part(0, 1), 1);
        Check.due("28 two messages", x.part(1, 1), 2);
        Check.due("28 not dead", x.part(1, 2), -1);
        Check.due("28 first message", x.part(1, 3), 0);
        Check.due("28 first message", x.part(2, 3), 1);
        x.delete(0, 0);
        Check.due("28 kept by another reference", x.part(0, 1), 1);
        x.delete(0, 2);
        Check.due("28 kept by a hidden reference", x.part(0, 1), 1);
        x.advance(1);
        x.setHold(0, false);
        Check.due("28 no message any more", x.part(0, 1), 0);
        Check.due("28 dead since", x.part(0, 2), 2);
        Check.due("28 another message", x.part(1, 1), 1);
        Check.due("28 not dead", x.part(1, 2), -1);
        Check.due("28 the first one, kept or not", x.part(1, 3), 0);
        Check.refused("28 value 4", IllegalArgumentException.class, () -> x.part(0, 4));
        Check.refused("28 value -1", IllegalArgumentException.class, () -> x.part(0, -1));
        Check.refused("28 part 3, first of two", NoSuchElementException.class, () -> x.part(3, 4));
        Check.refused("28 part -1", NoSuchElementException.class, () -> x.part(-1, 0));
        x.advance(3);
        Check.refused("28 removed", NoSuchElementException.class, () -> x.part(0, 0));
        Check.due("28 not removed", x.part(1, 0), 2);
    }

    private static void keptAgain() {
        MailSpool x = Check.loaded(TEXT);
        Check.deliver(x, 0, 1, -1, "abc");
        x.delete(0, 0);
        Check.due("28 dead", x.part(0, 2), 0);
        x.advance(1);
        x.setQuota(0, 1);
        Check.due("13 bounces for all", Check.deliver(x, 0, 1, -1, "abc"), -2);
        Check.due("28 still dead", x.part(0, 2), 0);
        x.setQuota(0, 99);
        Check.deliver(x, 0, 1, -1, "abc|x");
        Check.due("28 kept again", x.part(0, 2), -1);
        Check.due("28 kept messages", x.part(0, 1), 1);
        Check.due("28 first message", x.part(0, 3), 0);
        x.advance(4);
        Check.due("26 not removed", x.storedParts(), 2);
        x.delete(1, 0);
        Check.due("28 dead since the new day", x.part(0, 2), 5);
    }

    private static void bytesOfParts() {
        MailSpool x = Check.loaded(TEXT);
        Check.deliver(x, 0, 1, -1, "\u0000\u00ff~|x");
        int[] want = {0, 255, '~'};
        for (int i = 0; i < 3; i++) {
            Check.due("29 byte " + i, x.partByte(0, i), want[i]);
        }
        Check.refused("29 offset 3", IndexOutOfBoundsException.class, () -> x.partByte(0, 3));
        Check.refused("29 offset -1", IndexOutOfBoundsException.class, () -> x.partByte(0, -1));
        Check.refused("29 part 2, first of two", NoSuchElementException.class, () -> x.partByte(2, -1));
        Check.refused("29 part -1", NoSuchElementException.class, () -> x.partByte(-1, 0));
        Check.refused("30 part 2", NoSuchElementException.class, () -> x.digest(2));
        Check.refused("30 part -1", NoSuchElementException.class, () -> x.digest(-1));
        x.delete(0, 0);
        Check.due("29 a dead part", x.partByte(0, 1), 255);
        x.advance(5);
        Check.refused("29 removed", NoSuchElementException.class, () -> x.partByte(0, 0));
        Check.refused("30 removed", NoSuchElementException.class, () -> x.digest(0));
    }

    private static void digest() {
        MailSpool x = Check.loaded(TEXT);
        // the published values of FNV-1a
        Check.deliver(x, 0, 1, -1, "a|b|foobar");
        Check.due("30 a", x.digest(0), 0xaf63dc4c8601ec8cL);
        Check.due("30 b", x.digest(1), 0xaf63df4c8601f1a5L);
        Check.due("30 foobar", x.digest(2), 0x85944171f73967e8L);
        Check.deliver(x, 0, 1, -1, "\u00ff");
        Check.due("30 a byte over 127", x.digest(3), (-3750763034362895579L ^ 255) * 1099511628211L);
    }

    private static void mostShared() {
        MailSpool x = Check.loaded(TEXT);
        Check.due("34 empty", x.mostShared(), -1);
        Check.deliver(x, 0, 1, -1, "a|b");
        Check.due("34 lowest", x.mostShared(), 0);
        Check.deliver(x, 0, 1, -1, "c|b|b");
        Check.due("34 greatest", x.mostShared(), 1);
        Check.deliver(x, 0, 1, -1, "c|d");
        Check.due("34 lowest among equals", x.mostShared(), 1);
        Check.deliver(x, 0, 1, -1, "c");
        Check.due("34 greatest", x.mostShared(), 2);
        x.delete(3, 0);
        Check.due("34 kept messages only", x.mostShared(), 1);
        x.delete(0, 0);
        x.delete(1, 0);
        Check.due("34 of the last message", x.mostShared(), 2);
        x.delete(2, 0);
        Check.due("34 all dead", x.mostShared(), -1);
        Check.due("26 all dead ones are there", x.storedParts(), 4);
        MailSpool y = Check.loaded(TEXT);
        Check.deliver(y, 0, 1, -1, "a");
        Check.deliver(y, 0, 4, -1, "b");
        Check.deliver(y, 0, 4, -1, "b");
        y.delete(1, 2);
        y.delete(2, 2);
        Check.due("19 hidden", y.hidden(1), 4);
        Check.due("34 hidden references keep messages", y.mostShared(), 1);
        y.delete(0, 0);
        y.advance(5);
        Check.due("34 the first part is removed", y.mostShared(), 1);
        y.setHold(0, false);
        Check.due("34 none is kept", y.mostShared(), -1);
    }
}
