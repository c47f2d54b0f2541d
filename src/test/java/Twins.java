import java.lang.reflect.InvocationTargetException;
import java.lang.reflect.Method;
import java.util.Arrays;

/** Calls by name, and two objects made alike, of which one alone is asked something. */
final class Twins {
    interface Setup {
        CarpetEleven made();
    }

    private final Due due;

    Twins(Due due) {
        this.due = due;
    }

    static long call(CarpetEleven x, String name, int... args) {
        Class<?>[] types = new Class<?>[args.length];
        Object[] boxed = new Object[args.length];
        for (int i = 0; i < args.length; i++) {
            types[i] = int.class;
            boxed[i] = args[i];
        }
        try {
            Method method = CarpetEleven.class.getMethod(name, types);
            return ((Number) method.invoke(x, boxed)).longValue();
        } catch (InvocationTargetException thrown) {
            throw new IllegalStateException(name + Arrays.toString(args) + " threw", thrown.getCause());
        } catch (ReflectiveOperationException none) {
            throw new IllegalStateException(none);
        }
    }

    /** The answer is as wanted, and all that can be seen of the object is as without the call. */
    void changesNothing(Setup setup, long want, String name, int... args) {
        String told = name + Arrays.toString(args);
        CarpetEleven asked = setup.made();
        CarpetEleven other = setup.made();
        due.is(told, call(asked, name, args), want);
        alike(told, asked, other);
    }

    /** Whatever the answer is, all that can be seen of the object is as without the call. */
    void isThoughtOnly(Setup setup, String name, int... args) {
        CarpetEleven asked = setup.made();
        CarpetEleven other = setup.made();
        call(asked, name, args);
        alike(name + Arrays.toString(args), asked, other);
    }

    void alike(String told, CarpetEleven asked, CarpetEleven other) {
        String[] now = Probe.of(asked).split("\n");
        String[] due1 = Probe.of(other).split("\n");
        due.is(told + ": as many things are seen", now.length, due1.length);
        for (int i = 0; i < now.length && i < due1.length; i++) {
            if (!now[i].equals(due1[i])) {
                due.holds(told + " changes: " + now[i] + ", due is " + due1[i], false);
                return;
            }
        }
        due.holds(told + " changes nothing", true);
    }

    // ---- objects in which there is much to change

    /** Sellers who are open, SOLD and GONE, sheets of each sort, a tape begun; room for more. */
    static CarpetEleven some() {
        CarpetEleven x = new CarpetEleven();
        Due.text(x, Probe.READER);
        x.seller(5, 805);
        x.seller(0, 1003);
        x.seller(2, 503);
        x.seller(3, 0);
        x.word(1, 100);
        x.agree(2);
        x.word(3, 0);
        x.word(3, 0);
        x.word(3, 0);
        x.set(0, 0, 5);
        x.set(1, 0, 8);
        x.set(2, 0, 300);
        Due.row(x, 0, 2, 100, 255, -7, 5000, 3);
        Due.row(x, 1, 1, 1, 12, 5, 1999);
        Due.row(x, 3, 0, 0, 100, 5, 127);
        feed(x, "least 1;first 2;pull 3");
        return x;
    }

    /** The same with an image, behind which much has changed. */
    static CarpetEleven kept() {
        CarpetEleven x = some();
        x.image();
        x.set(0, 0, 7);
        x.set(1, 0, 20);
        x.set(2, 0, 1999);
        x.set(3, 1, 150);
        x.anew(2);
        x.anew(3);
        x.agree(0);
        x.force(1);
        x.seller(4, 777);
        return x;
    }

    /** Six sellers, a sheet of forty. */
    static CarpetEleven fullOfSellers() {
        CarpetEleven x = new CarpetEleven();
        Due.text(x, Probe.READER);
        for (int kind = 0; kind < 6; kind++) {
            x.seller(5 - kind, 1000 + 111 * kind);
        }
        x.word(1, 50);
        x.agree(4);
        x.sheet(0, 2, 40);
        x.cell(0, 39, 7);
        x.sheet(1, 1, 0);
        Due.row(x, 2, 1, 3, 4);
        return x;
    }

    /** Six texts, a tape of 160 bytes. */
    static CarpetEleven fullOfTexts() {
        CarpetEleven x = new CarpetEleven();
        Due.text(x, Probe.READER);
        for (int i = 2; i <= 5; i++) {
            Due.text(x, "least " + i + ";first 9;pull 0;");
        }
        x.force(3);
        x.seller(5, 5);
        for (int i = 0; i < 160; i++) {
            x.feed(i % 2 == 0 ? 32 : 10);
        }
        return x;
    }

    private static void feed(CarpetEleven x, String letters) {
        for (int i = 0; i < letters.length(); i++) {
            x.feed(letters.charAt(i));
        }
    }
}
