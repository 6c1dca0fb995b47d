import java.lang.reflect.Constructor;
import java.lang.reflect.Field;
import java.lang.reflect.Method;
import java.lang.reflect.Modifier;
import java.util.Arrays;
import java.util.Map;
import java.util.TreeMap;

/** The document's public face, and no other member that can be seen. */
public final class FaceTest {
    private static final Due D = new Due();
    private static final String FACE = "feed5 end1 shop0 rule0 force1 thing2 code2 want2 dear3 cost1 put1 drop1 lay1 lift1 look1 "
        + "buy0 sendBack1 day0 undo0 order1 fill1 baskets1 days1 sent1 join1 freedom1 receipt3 told4 ruled1 probe3 await2 "
        + "seed1 years3 count1 image1 back1";
    private static final String NAMES = " " + FACE.replaceAll("[0-9]", "") + " ";

    private static void methods() {
        Map<String, Method> seen = new TreeMap<>();
        for (Method m : FortyBasket.class.getDeclaredMethods()) {
            if (Modifier.isPublic(m.getModifiers())) {
                seen.put(m.getName() + m.getParameterCount(), m);
            } else {
                D.holds(m + " is private", Modifier.isPrivate(m.getModifiers()));
                D.holds(m + " bears no public name", !NAMES.contains(" " + m.getName() + " "));
            }
        }
        for (String name : FACE.split(" ")) {
            Method m = seen.remove(name);
            D.holds(name + " is there", m != null && m.getReturnType() == int.class && !Modifier.isStatic(m.getModifiers())
                && Arrays.stream(m.getParameterTypes()).allMatch(t -> t == int.class));
        }
        D.holds("no other method: " + seen.keySet(), seen.isEmpty());
    }

    private static void others() {
        D.holds("public and final", Modifier.isPublic(FortyBasket.class.getModifiers()) && Modifier.isFinal(FortyBasket.class.getModifiers()));
        Constructor<?>[] made = FortyBasket.class.getDeclaredConstructors();
        D.holds("one constructor", made.length == 1 && Modifier.isPublic(made[0].getModifiers()) && made[0].getParameterCount() == 0);
        for (Field f : FortyBasket.class.getDeclaredFields()) {
            boolean face = f.getName().equals("NONE") && f.getModifiers() == (Modifier.PUBLIC | Modifier.STATIC | Modifier.FINAL);
            D.holds(f + " is private", face || Modifier.isPrivate(f.getModifiers()));
        }
        Class<?>[] inside = FortyBasket.class.getDeclaredClasses();
        D.holds("at most twelve classes", inside.length < 12);
        for (Class<?> c : inside) {
            D.holds(c + " is private and static", Modifier.isPrivate(c.getModifiers()) && Modifier.isStatic(c.getModifiers()));
            long fields = Arrays.stream(c.getDeclaredFields()).filter(f -> !Modifier.isStatic(f.getModifiers())).count();
            D.holds(c + " has at most twenty fields, not " + fields, fields <= 20);
            for (Field f : c.getDeclaredFields()) {
                D.holds(f + " is no static state", !Modifier.isStatic(f.getModifiers()) || Modifier.isFinal(f.getModifiers()));
            }
            for (Method m : c.getDeclaredMethods()) {
                D.holds(m + " has at most seven parameters", m.getParameterCount() <= 7);
                D.holds(m + " bears no public name", !NAMES.contains(" " + m.getName() + " "));
            }
        }
    }

    public static void main(String[] args) {
        methods();
        others();
        D.finish();
    }
}
