import java.io.IOException;
import java.lang.reflect.Constructor;
import java.lang.reflect.Field;
import java.lang.reflect.Method;
import java.lang.reflect.Modifier;
import java.nio.charset.StandardCharsets;
import java.nio.file.Files;
import java.nio.file.Path;
import java.util.Set;
import java.util.TreeSet;
import java.util.regex.Pattern;

/** The document's public face, and the rules of LANGUAGE.md that a program can see. Run from the project's folder. */
public final class FaceTest {
    private static final String FACE = """
        feed(long,int) plain() wind(int,int,int) windOf(int) person(int,int) personOf(int,int) moves(int,int)
        speed(int,int) hat(int,int,int,int) hatOf(int,int) make(int,int,int) puts(int,int) down(int) found(int,int)
        bow(int,int) hours(int) clock(int) owns(int,int) where(int,int) wears(int,int) lost(int) master(int)
        wish(int,int) start(int,int) tie(int,int) calm() seed(int) draw(int) prove(int) row(int,int)
        alterRow(int,int,int) judge() winds(int,int,int,int) sheet(int,int,int) put(int,int,int) item(int,int,int)
        shelf(int,int,int) taken(int,int) act(int,int,int) trace(int) many(int) keep() again()
        """;

    public static void main(String[] args) throws IOException {
        constants();
        face();
        classesInside();
        source();
        Check.finish();
    }

    private static void constants() {
        Check.due("BAD", HatFields.BAD, -1);
        Check.due("FULL", HatFields.FULL, -2);
        Check.due("NONE", HatFields.NONE, -3);
        Check.due("STATE", HatFields.STATE, -4);
    }

    private static void face() {
        Set<String> due = new TreeSet<>(Set.of(FACE.trim().split("\\s+")));
        Set<String> names = new TreeSet<>();
        Set<String> got = new TreeSet<>();
        for (Method m : HatFields.class.getDeclaredMethods()) {
            if (!Modifier.isPrivate(m.getModifiers())) {
                holds(m + " is public and no more", m.getModifiers() == Modifier.PUBLIC);
                holds(m + " answers an int", m.getReturnType() == int.class);
                got.add(call(m));
                names.add(m.getName());
            }
        }
        holds("the calls " + got, got.equals(due));
        for (Method m : HatFields.class.getDeclaredMethods()) {
            holds(m + " has a name of its own", !Modifier.isPrivate(m.getModifiers()) || !names.contains(m.getName()));
        }
        for (Class<?> c : HatFields.class.getDeclaredClasses()) {
            for (Method m : c.getDeclaredMethods()) {
                holds(m + " has a name of its own", !names.contains(m.getName()));
            }
        }
        for (Field f : HatFields.class.getDeclaredFields()) {
            boolean constant = Set.of("BAD", "FULL", "NONE", "STATE").contains(f.getName());
            holds(f + " is private or of the face", constant ? Modifier.isPublic(f.getModifiers()) : Modifier.isPrivate(f.getModifiers()));
        }
        holds("public and final", HatFields.class.getModifiers() == (Modifier.PUBLIC | Modifier.FINAL));
        Constructor<?>[] made = HatFields.class.getDeclaredConstructors();
        holds("one public constructor", made.length == 1 && made[0].getModifiers() == Modifier.PUBLIC && made[0].getParameterCount() == 0);
    }

    private static String call(Method m) {
        StringBuilder call = new StringBuilder(m.getName()).append('(');
        for (Class<?> type : m.getParameterTypes()) {
            call.append(call.charAt(call.length() - 1) == '(' ? "" : ",").append(type.getName());
        }
        return call.append(')').toString();
    }

    private static void classesInside() {
        Class<?>[] inside = HatFields.class.getDeclaredClasses();
        holds("rule 11: at most twelve classes", inside.length < 12);
        for (Class<?> c : inside) {
            holds("rule 1: " + c + " is static", Modifier.isStatic(c.getModifiers()));
            holds("rule 1: " + c + " is not seen from outside", !Modifier.isPublic(c.getModifiers()) && !Modifier.isProtected(c.getModifiers()));
            fieldsOf(c);
        }
        fieldsOf(HatFields.class);
    }

    private static void fieldsOf(Class<?> c) {
        int own = 0;
        for (Field f : c.getDeclaredFields()) {
            holds("rule 5: " + f + " is final if static", !Modifier.isStatic(f.getModifiers()) || Modifier.isFinal(f.getModifiers()));
            own += Modifier.isStatic(f.getModifiers()) ? 0 : 1;
        }
        holds("rule 11: at most twenty fields in " + c, own <= 20);
        for (Method m : c.getDeclaredMethods()) {
            holds("rule 11: at most seven parameters in " + m, m.getParameterCount() <= 7);
        }
    }

    private static void source() throws IOException {
        String text = Files.readString(Path.of("src/main/java/HatFields.java"), StandardCharsets.ISO_8859_1);
        holds("rule 4: signs 1 to 127", text.chars().allMatch(sign -> sign > 0 && sign < 128));
        String code = text.replaceAll("(?s)/\\*.*?\\*/", " ").replaceAll("//[^\n]*", " ").replaceAll("\"[^\"]*\"", "\"\"");
        String[] words = {"throw", "throws", "try", "catch", "synchronized", "assert", "import", "package", "protected",
            "volatile", "Random", "Thread", "hashCode", "toString", "double", "float"};
        for (String word : words) {
            holds("rules 3, 4, 6, 13: no '" + word + "'", !Pattern.compile("\\b" + word + "\\b").matcher(code).find());
        }
        holds("rule 2: no lambda, no method reference", !code.contains("->") && !code.contains("::"));
        holds("rule 10: texts aren't joined by +", !code.contains("\"\" +") && !code.contains("+ \"\""));
        Set<String> library = new TreeSet<>();
        var matcher = Pattern.compile("\\b(Math|Integer|Long|System|Arrays|List|String|Character|Objects)\\.(\\w+)").matcher(code);
        while (matcher.find()) {
            library.add(matcher.group());
        }
        holds("rule 4: the library used: " + library,
            Set.of("Math.abs", "Math.max", "Math.min", "Integer.bitCount", "System.arraycopy").containsAll(library));
    }

    private static void holds(String what, boolean so) {
        Check.due(what, so ? 1 : 0, 1);
    }
}
