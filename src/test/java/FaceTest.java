import java.lang.reflect.Constructor;
import java.lang.reflect.Field;
import java.lang.reflect.Method;
import java.lang.reflect.Modifier;
import java.util.ArrayList;
import java.util.List;
import java.util.TreeSet;

/** The class shows the document's face and nothing else (LANGUAGE.md, rules 1, 2, 5 and 11). */
public final class FaceTest {
  private static final List<String> FACE = List.of(
      "public int answer(int) throws java.util.NoSuchElementException",
      "public int best(int,int)",
      "public int call(int,int)",
      "public int cost(int,int)",
      "public int count(int)",
      "public int draw(int,int,int,int)",
      "public int drift(int,int,int)",
      "public int drop(int)",
      "public int key(int,int)",
      "public boolean law(int,boolean)",
      "public int set(int,int)",
      "public int stage(int)",
      "public int stages()",
      "public int sum(int,int)",
      "public int told(int,int)");
  private static final Due DUE = new Due("FaceTest");

  public static void main(String[] args) {
    Class<WhichShelf> face = WhichShelf.class;
    DUE.is("public final class", face.getModifiers(), Modifier.PUBLIC | Modifier.FINAL);
    constructors(face);
    methods(face);
    fields(face);
    insideClasses(face);
    DUE.end();
  }

  private static void constructors(Class<?> face) {
    Constructor<?>[] all = face.getDeclaredConstructors();
    DUE.is("constructors", all.length, 1);
    DUE.is("it is public and takes nothing", all[0].toString().equals("public WhichShelf()"), true);
  }

  private static void methods(Class<?> face) {
    TreeSet<String> shown = new TreeSet<>();
    TreeSet<String> shownNames = new TreeSet<>();
    List<String> hiddenNames = new ArrayList<>();
    for (Method method : face.getDeclaredMethods()) {
      if (Modifier.isPrivate(method.getModifiers())) {
        hiddenNames.add(method.getName());
      } else {
        shown.add(method.toString().replace("WhichShelf.", ""));
        shownNames.add(method.getName());
      }
    }
    DUE.is("methods as in " + shown, shown.equals(new TreeSet<>(FACE)), true);
    for (String name : hiddenNames) {
      DUE.is("private " + name + " bears a public name", shownNames.contains(name), false);
    }
  }

  private static void fields(Class<?> face) {
    for (Field field : face.getDeclaredFields()) {
      int is = field.getModifiers();
      boolean constant = field.getName().equals("NONE") && is == (Modifier.PUBLIC | Modifier.STATIC | Modifier.FINAL);
      DUE.is("field " + field.getName(), constant || Modifier.isPrivate(is), true);
      DUE.is("static means final: " + field.getName(), !Modifier.isStatic(is) || Modifier.isFinal(is), true);
    }
    DUE.is("NONE", WhichShelf.NONE, -1);
  }

  private static void insideClasses(Class<?> face) {
    DUE.is("at most twelve classes", face.getDeclaredClasses().length <= 11, true);
    for (Class<?> inside : face.getDeclaredClasses()) {
      int is = inside.getModifiers();
      DUE.is(inside.getName() + " is static", Modifier.isStatic(is), true);
      DUE.is(inside.getName() + " is hidden", Modifier.isPublic(is) || Modifier.isProtected(is), false);
    }
  }
}
