import java.lang.reflect.Constructor;
import java.lang.reflect.Field;
import java.lang.reflect.Method;
import java.lang.reflect.Modifier;
import java.util.Set;
import java.util.TreeSet;

/** The public face is the document's and nothing more; no private method bears the name of a public one. */
public final class FaceTest {
    private static final String[] FACE = {
        "int coast(int)", "int cell(int,int,int,int)", "int dike(int,int)", "int want(int,int)", "int moon(int)",
        "int bells(int)", "int treaty(int,int,int,int,int,int)", "int end(int)", "int type(int)", "int clear()",
        "int read()", "int year(int)", "int undo()", "int of(int,int)", "int about(int,int)", "int storm(int)",
        "int guarded()", "int wet()", "int then(int,int)", "int firstLost()", "int offer(int,int,int,int)",
        "int cheapest(int,int,int)", "int clashes(int)", "int mend()", "int letsIn(int,int)", "int rests(int)",
        "int tide(int,int,boolean)", "int learnt(int,int)", "int shells(int,int)", "int vote(int,int,int)",
        "int drawn(int,int,int)", "int burn(int)", "int image(int)", "int from(int)", "int status(int)",
        "int count(int)", "long digest()", "field int NONE", "field int BAD", "field int NO", "field int FULL",
        "new()"};

    public static void main(String[] args) {
        Set<String> due = new TreeSet<>(Set.of(FACE));
        Set<String> got = new TreeSet<>();
        Set<String> publicNames = new TreeSet<>();
        Set<String> privateNames = new TreeSet<>();
        for (Method m : TideTreaty.class.getDeclaredMethods()) {
            boolean isPrivate = Modifier.isPrivate(m.getModifiers());
            (isPrivate ? privateNames : publicNames).add(m.getName());
            if (!isPrivate) got.add(m.getReturnType() + " " + m.getName() + types(m.getParameterTypes()));
        }
        for (Field f : TideTreaty.class.getDeclaredFields()) {
            if (!Modifier.isPrivate(f.getModifiers())) got.add("field " + f.getType() + " " + f.getName());
        }
        for (Constructor<?> c : TideTreaty.class.getDeclaredConstructors()) got.add("new" + types(c.getParameterTypes()));
        Checks checks = new Checks();
        for (String member : due) checks.due(0, member + " is there", got.contains(member) ? 1 : 0, 1);
        for (String member : got) checks.due(0, member + " is in the document", due.contains(member) ? 1 : 0, 1);
        for (String name : publicNames) checks.due(0, name + " is private too", privateNames.contains(name) ? 1 : 0, 0);
        checks.due(0, "final", TideTreaty.class.getModifiers(), Modifier.PUBLIC | Modifier.FINAL);
        checks.due(0, "NONE", TideTreaty.NONE, -1);
        checks.due(0, "BAD", TideTreaty.BAD, -2);
        checks.due(0, "NO", TideTreaty.NO, -3);
        checks.due(0, "FULL", TideTreaty.FULL, -4);
        checks.finish();
    }

    private static String types(Class<?>[] types) {
        StringBuilder text = new StringBuilder("(");
        for (Class<?> type : types) text.append(text.length() > 1 ? "," : "").append(type);
        return text.append(")").toString();
    }
}
