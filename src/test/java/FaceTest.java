import java.lang.reflect.Constructor;
import java.lang.reflect.Field;
import java.lang.reflect.Method;
import java.lang.reflect.Modifier;
import java.util.Arrays;
import java.util.Set;
import java.util.TreeSet;

/** The class has the face of the document and nothing beside it (LANGUAGE.md, rule 1). */
public final class FaceTest {
    private static final Set<String> DUE = new TreeSet<>(Arrays.asList(
            "public final class CreaturePond",
            "public static final int CreaturePond.NONE",
            "public CreaturePond(int,int)",
            "public boolean CreaturePond.set(int,int)",
            "public boolean CreaturePond.store(int)",
            "public boolean CreaturePond.grain(int,int,int)",
            "public int CreaturePond.animal(int,int,int,int)"
                    + " throws java.lang.IllegalArgumentException,java.lang.IllegalStateException",
            "public int CreaturePond.code(int,int,long)"
                    + " throws java.lang.IllegalArgumentException,java.lang.IllegalStateException",
            "public int CreaturePond.tick(int) throws java.lang.IllegalArgumentException",
            "public int CreaturePond.cell(int,int,int)",
            "public int CreaturePond.field(int,int)",
            "public byte CreaturePond.inner(int,boolean,int) throws java.lang.IndexOutOfBoundsException",
            "public int CreaturePond.total(int)",
            "public void CreaturePond.keep()",
            "public int CreaturePond.differ() throws java.lang.IllegalStateException",
            "public boolean CreaturePond.back()"));

    public static void main(String[] args) {
        Set<String> found = new TreeSet<>();
        found.add(CreaturePond.class.toGenericString());
        for (Field field : CreaturePond.class.getDeclaredFields()) {
            if (!Modifier.isPrivate(field.getModifiers())) {
                found.add(field.toGenericString());
            }
        }
        for (Constructor<?> constructor : CreaturePond.class.getDeclaredConstructors()) {
            if (!Modifier.isPrivate(constructor.getModifiers())) {
                found.add(constructor.toGenericString());
            }
        }
        for (Method method : CreaturePond.class.getDeclaredMethods()) {
            if (!Modifier.isPrivate(method.getModifiers())) {
                found.add(method.toGenericString());
            }
        }
        Check check = new Check();
        check.due("the face", found, DUE);
        for (Class<?> inside : CreaturePond.class.getDeclaredClasses()) {
            check.due(inside.getName() + " is static", Modifier.isStatic(inside.getModifiers()), true);
            check.due(inside.getName() + " is not public", Modifier.isPublic(inside.getModifiers()), false);
            privateNames(check, inside);
        }
        privateNames(check, CreaturePond.class);
        check.due("NONE", CreaturePond.NONE, -1);
        check.end();
    }

    /** No private method bears the name of a public one. */
    private static void privateNames(Check check, Class<?> of) {
        Set<String> faceNames = new TreeSet<>();
        for (Method method : CreaturePond.class.getMethods()) {
            faceNames.add(method.getName());
        }
        for (Method method : of.getDeclaredMethods()) {
            if (Modifier.isPrivate(method.getModifiers())) {
                check.due(of.getName() + "." + method.getName() + " is a name of the face",
                        faceNames.contains(method.getName()), false);
            }
        }
    }
}
