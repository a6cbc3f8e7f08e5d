import java.lang.reflect.Constructor;
import java.lang.reflect.Field;
import java.lang.reflect.Member;
import java.lang.reflect.Method;
import java.lang.reflect.Modifier;
import java.util.ArrayList;
import java.util.List;
import java.util.Set;
import java.util.TreeSet;

/** The face is the document's, and no more (LANGUAGE.md, rules 1, 5, 11). */
final class FaceTest {
    private static final String[] FACE = {
        "int put(int)", "int gap()", "int forget()", "int flush(int)", "int set(int,int,int)",
        "int clear(int,int)", "int insert(int,int,int)", "int remove(int,int)",
        "int split(int,int,int)", "int shift(int,int)", "int merge(int,int,int)",
        "int copy(int,int,int,int)", "boolean swap(int,int)", "int drop(int,int)", "int join(int)",
        "int recut(int)", "int walk(int,int,int,int)", "boolean tell(int)", "int word(int)",
        "boolean end(int)", "int tape(int)", "int save(int)", "int open(int)", "int fault(int)",
        "int undo()", "int column(int,int)", "int block(int,int,int)", "int like(int,int,int)",
        "int filled(int)", "int empties(int,int,int)", "int base(int,int,int)",
        "int bits(int,int,int)", "long bound(int,int,boolean)", "long value(int,int)",
        "int blockOf(int,int)", "int read(int,int)", "boolean patched(int,int)",
        "long part(int,int,int)", "long pending(int)", "int total(int,int)", "int best(int)",
        "int narrow(int,int)", "int least(int)", "int cuts(int,int)", "int evenly(int,int)",
        "int evenest(int)", "int heaviest(int)", "long folded(int)", "long difference(int,int)",
        "int would(int,int,int)", "boolean sorted(int)", "int find(int,int)", "int looks(int,int)",
        "long sum(int,int,int)", "int count(int,int,int)", "int skipped(int,int,int)",
        "long ranked(int,int)", "int distinct(int)", "int run(int)", "int unlike(int,int)",
        "boolean alike(int,int)", "long ratio(int)", "int image()", "int back()", "int about(int)",
    };

    private static final Due due = new Due();

    public static void main(String[] args) {
        Class<?> face = PatchedColumns.class;
        due.yes("public and final", Modifier.isPublic(face.getModifiers())
                && Modifier.isFinal(face.getModifiers()));
        Set<String> wanted = new TreeSet<>(List.of(FACE));
        Set<String> publicNames = new TreeSet<>();
        Set<String> found = new TreeSet<>();
        for (Method method : face.getDeclaredMethods()) {
            if (Modifier.isPublic(method.getModifiers())) {
                found.add(signature(method));
                publicNames.add(method.getName());
            } else {
                isPrivate(method);
            }
        }
        due.is("methods of the face", found.size(), wanted.size());
        due.yes("the methods are " + wanted + " and not " + found, found.equals(wanted));
        for (Constructor<?> made : face.getDeclaredConstructors()) {
            due.yes("public constructor", Modifier.isPublic(made.getModifiers()));
            due.is("its parameters", made.getParameterCount(), 0);
        }
        for (Field field : face.getDeclaredFields()) {
            if (!field.getName().equals("NONE")) {
                isPrivate(field);
            }
        }
        due.is("NONE", PatchedColumns.NONE, -1);
        List<Class<?>> all = new ArrayList<>(List.of(face.getDeclaredClasses()));
        all.add(face);
        due.yes("some twelve classes", all.size() <= 12);
        for (Class<?> one : all) {
            look(one, publicNames);
        }
        due.end("FaceTest");
    }

    private static void look(Class<?> one, Set<String> publicNames) {
        int fields = 0;
        for (Field field : one.getDeclaredFields()) {
            if (Modifier.isStatic(field.getModifiers())) {
                due.yes(field + " is final", Modifier.isFinal(field.getModifiers()));
            } else {
                fields++;
            }
        }
        due.yes(one + " has some twenty fields", fields <= 20);
        for (Method method : one.getDeclaredMethods()) {
            due.yes(method + " has seven parameters at most", method.getParameterCount() <= 7);
            if (one != PatchedColumns.class) {
                due.no(method + " has a name of the face", publicNames.contains(method.getName()));
            } else if (!Modifier.isPublic(method.getModifiers())) {
                due.no(method + " has a name of the face", publicNames.contains(method.getName()));
            }
        }
    }

    private static void isPrivate(Member member) {
        due.yes(member + " is private", Modifier.isPrivate(member.getModifiers()));
    }

    private static String signature(Method method) {
        StringBuilder told = new StringBuilder();
        told.append(method.getReturnType()).append(' ').append(method.getName()).append('(');
        for (int i = 0; i < method.getParameterCount(); i++) {
            told.append(i == 0 ? "" : ",").append(method.getParameterTypes()[i]);
        }
        return told.append(')').toString();
    }
}
