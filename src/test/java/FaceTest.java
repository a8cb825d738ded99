import java.lang.reflect.Constructor;
import java.lang.reflect.Field;
import java.lang.reflect.Member;
import java.lang.reflect.Method;
import java.lang.reflect.Modifier;
import java.util.ArrayList;
import java.util.HashSet;
import java.util.List;
import java.util.Set;
import java.util.TreeSet;

/** The public face of the document, and what LANGUAGE.md asks of members and of nested classes. */
public final class FaceTest {
  private static final String[] FACE = {
    "int table(int) IllegalArgument IllegalState",
    "int bound(int,int,int,int) IndexOutOfBounds IllegalArgument",
    "int insert(int,int,int,int) IndexOutOfBounds IllegalArgument IllegalState",
    "int remove(int,int) IndexOutOfBounds NoSuchElement",
    "int count(int) IndexOutOfBounds",
    "int index(int,int) IndexOutOfBounds IllegalArgument IllegalState",
    "int frames(int) IllegalArgument",
    "int pages(int) IndexOutOfBounds",
    "int value(int,int,int) IndexOutOfBounds IllegalArgument NoSuchElement",
    "int entries(int) IndexOutOfBounds",
    "int entryAt(int,int) IndexOutOfBounds NoSuchElement",
    "int counted(int,int,char) IndexOutOfBounds IllegalArgument",
    "int cached()",
    "int cachedAt(int) NoSuchElement",
    "int flush()",
    "int query() IllegalState",
    "int from(int,int) IndexOutOfBounds IllegalState",
    "int where(int,int,int,char,int) IndexOutOfBounds IllegalArgument IllegalState",
    "int join(int,int,int,int,int) IndexOutOfBounds IllegalArgument IllegalState",
    "int answers(int) IndexOutOfBounds UnsupportedOperation",
    "int answerAt(int,int,int) IndexOutOfBounds IllegalArgument NoSuchElement",
    "long sum(int,int,int) IndexOutOfBounds IllegalArgument",
    "int planned(int,int,int) IllegalArgument IndexOutOfBounds NoSuchElement",
    "char way(int,int,int) IllegalArgument IndexOutOfBounds NoSuchElement",
    "int usedIndex(int,int,int) IllegalArgument IndexOutOfBounds NoSuchElement",
    "long estimate(int,int) IllegalArgument IndexOutOfBounds UnsupportedOperation",
    "int cold(int,int) IllegalArgument IndexOutOfBounds UnsupportedOperation",
    "int reads(int,int) IllegalArgument IndexOutOfBounds UnsupportedOperation",
    "int ban(int,int) IllegalArgument IndexOutOfBounds UnsupportedOperation IllegalState",
    "int round(int) IndexOutOfBounds UnsupportedOperation",
    "int appeal(int) IllegalArgument UnsupportedOperation IllegalState",
    "int coins(int) IllegalArgument",
    "int misses(int,int) IllegalArgument NoSuchElement",
    "int total(int) IllegalArgument",
    "int rounds()",
    "long print()",
    "float hitShare(int,int) IllegalArgument IndexOutOfBounds UnsupportedOperation Arithmetic",
    "double meanMisses() Arithmetic",
    "boolean isSound()"
  };

  private static String told(Method method) {
    List<String> types = new ArrayList<>();
    for (Class<?> type : method.getParameterTypes()) {
      types.add(type.getName());
    }
    StringBuilder told = new StringBuilder(method.getReturnType() + " " + method.getName());
    told.append('(').append(String.join(",", types)).append(')');
    for (Class<?> thrown : method.getExceptionTypes()) {
      told.append(' ').append(thrown.getSimpleName().replace("Exception", ""));
    }
    return told.toString();
  }

  private static void checkFace(Check check) {
    Class<?> own = DuelSchema.class;
    check.due("public and final", Modifier.PUBLIC | Modifier.FINAL, own::getModifiers);
    check.due("no package", "", own::getPackageName);
    Set<String> names = new HashSet<>();
    Set<String> found = new TreeSet<>();
    for (Method method : own.getDeclaredMethods()) {
      if (Modifier.isPublic(method.getModifiers())) {
        found.add(told(method));
        names.add(method.getName());
      }
    }
    check.report("the face", new TreeSet<>(List.of(FACE)).toString(), found.toString());
    Constructor<?>[] constructors = own.getDeclaredConstructors();
    check.due("one constructor", 1, () -> constructors.length);
    check.due("without parameters, public", true, () ->
        constructors[0].getParameterCount() == 0 && Modifier.isPublic(constructors[0].getModifiers()));
    for (Method method : own.getDeclaredMethods()) {
      if (!Modifier.isPublic(method.getModifiers())) {
        checkPrivate(check, method);
        check.report("a private method of its own name: " + method.getName(), "false",
            String.valueOf(names.contains(method.getName())));
      }
    }
    for (Field field : own.getDeclaredFields()) {
      checkPrivate(check, field);
    }
  }

  private static void checkPrivate(Check check, Member member) {
    check.due("private: " + member, true, () -> Modifier.isPrivate(member.getModifiers()));
  }

  private static void checkNested(Check check) {
    Class<?>[] nested = DuelSchema.class.getDeclaredClasses();
    check.due("some twelve classes", true, () -> nested.length + 1 <= 12);
    for (Class<?> inner : nested) {
      check.due("static, not public: " + inner, true, () ->
          Modifier.isStatic(inner.getModifiers()) && !Modifier.isPublic(inner.getModifiers()));
      for (Field field : inner.getDeclaredFields()) {
        check.due("no static state: " + field, true, () ->
            !Modifier.isStatic(field.getModifiers()) || Modifier.isFinal(field.getModifiers()));
      }
      for (Method method : inner.getDeclaredMethods()) {
        check.due("at most seven parameters: " + method, true, () -> method.getParameterCount() <= 7);
      }
    }
    for (Field field : DuelSchema.class.getDeclaredFields()) {
      check.due("no static state: " + field, true, () ->
          !Modifier.isStatic(field.getModifiers()) || Modifier.isFinal(field.getModifiers()));
    }
  }

  public static void main(String[] args) {
    Check check = new Check();
    checkFace(check);
    checkNested(check);
    check.end();
  }
}
