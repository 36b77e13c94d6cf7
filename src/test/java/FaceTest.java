import java.lang.reflect.Constructor;
import java.lang.reflect.Field;
import java.lang.reflect.Member;
import java.lang.reflect.Method;
import java.lang.reflect.Modifier;
import java.util.Arrays;
import java.util.TreeSet;

/** The public face, and rules 1, 5 and 11 of LANGUAGE.md as far as the compiled class tells. */
public final class FaceTest {
    private static final String FACE = "feed(int,int,int,int,int)int book(int)int begin(int,int,int)int change(int,int)int seats(int,int)int "
        + "tax(int)int taxes(int,int)int pause(int,boolean)int giveUp(int)int move(int,int)int deeds(int)int tried(int,int)int use(int,int)int "
        + "days(int)int favour(int,int)int pay(int,int)int remind(int)int late(int,int)int open(int)int owes(int,int)int earned(int,int)int "
        + "written(int,int)int turn(int)int plan(int,int)int billIs(int)int usage(int,int)int units(int,int)int cheapest(int)int "
        + "accountIs(int,int)int part(int,int,int,int)int span(int,int,int)int date(int,int)int day(int,int,int)int entry(int,int)int "
        + "line(int,int)int period(int,int)int quote(int,int,int)int best(int,int,int)int ahead(int,int)int when(int,int)int keep()int "
        + "undo()boolean check(int)int count(int)int";

    public static void main(String[] args) throws Exception {
        Checks c = new Checks();
        Class<?> face = SlicedBills.class;
        c.due("the class is public and final", Modifier.isPublic(face.getModifiers()) && Modifier.isFinal(face.getModifiers()), true);
        TreeSet<String> told = new TreeSet<>(Arrays.asList(FACE.split(" ")));
        TreeSet<String> is = new TreeSet<>();
        TreeSet<String> names = new TreeSet<>();
        for (Method m : face.getDeclaredMethods()) {
            if (isPrivate(m)) continue;
            StringBuilder types = new StringBuilder();
            for (Class<?> p : m.getParameterTypes()) types.append(types.length() > 0 ? "," : "").append(p.getName());
            is.add(m.getName() + "(" + types + ")" + m.getReturnType().getName());
            names.add(m.getName());
            c.due(m.getName() + " is public, not static", m.getModifiers(), Modifier.PUBLIC);
        }
        c.due("the methods, " + is + ", are those told", is.equals(told), true);
        c.due("one constructor", face.getDeclaredConstructors().length, 1);
        for (Constructor<?> k : face.getDeclaredConstructors()) c.due("a public one", Modifier.isPublic(k.getModifiers()), true);
        for (Field f : face.getDeclaredFields()) {
            if (!isPrivate(f)) c.due(f.getName() + " is NONE", f.getName().equals("NONE"), true);
        }
        c.due("NONE", face.getField("NONE").getInt(null), -1);
        inside(c, face, names);
        c.due("classes", face.getDeclaredClasses().length < 12, true);
        for (Class<?> k : face.getDeclaredClasses()) inside(c, k, names);
        c.end();
    }

    private static boolean isPrivate(Member m) { return Modifier.isPrivate(m.getModifiers()); }

    private static void inside(Checks c, Class<?> k, TreeSet<String> names) {
        String name = k.getSimpleName();
        if (k != SlicedBills.class) {
            c.due(name + " is static", Modifier.isStatic(k.getModifiers()), true);
            c.due(name + " is not public, not protected", k.getModifiers() & (Modifier.PUBLIC | Modifier.PROTECTED), 0);
            c.due(name + " holds no class", k.getDeclaredClasses().length, 0);
        }
        int own = 0;
        for (Field f : k.getDeclaredFields()) {
            if (Modifier.isStatic(f.getModifiers())) c.due(name + "." + f.getName() + " is final", Modifier.isFinal(f.getModifiers()), true);
            else own++;
        }
        c.due(name + " has some twenty fields", own <= 20, true);
        for (Method m : k.getDeclaredMethods()) {
            c.due(name + "." + m.getName() + " has seven parameters at most", m.getParameterCount() <= 7, true);
            if (k != SlicedBills.class || isPrivate(m)) {
                c.due(name + "." + m.getName() + " does not bear a public name", names.contains(m.getName()), false);
            }
        }
    }
}
