import java.lang.reflect.Constructor;
import java.lang.reflect.Field;
import java.lang.reflect.Member;
import java.lang.reflect.Method;
import java.lang.reflect.Modifier;
import java.nio.file.Files;
import java.nio.file.Path;
import java.util.ArrayList;
import java.util.List;
import java.util.Set;
import java.util.TreeSet;
import java.util.regex.Matcher;
import java.util.regex.Pattern;

/** The public face is just that of the document, and the file keeps to the rules that a text can show. */
public final class FaceTest {
    private static final List<String> METHODS = List.of(
        "public boolean PicturesLent.far(int,int,int)",
        "public int PicturesLent.home(int,int)",
        "public int PicturesLent.work(int,int,int)",
        "public boolean PicturesLent.rule(int,int,int)",
        "public int PicturesLent.go(int)",
        "public int PicturesLent.wish(int,int)",
        "public boolean PicturesLent.unwish(int)",
        "public int PicturesLent.rank(int)",
        "public int PicturesLent.next(int)",
        "public boolean PicturesLent.offer(int,boolean)",
        "public int PicturesLent.back(int)",
        "public int PicturesLent.sell(int)",
        "public boolean PicturesLent.lose(int)",
        "public int PicturesLent.pay(int,int)",
        "public int PicturesLent.look(int,int)",
        "public int PicturesLent.blame(int,int)",
        "public int PicturesLent.planned(int)",
        "public int PicturesLent.miles()",
        "public int PicturesLent.told(int,int)",
        "public int PicturesLent.homed(int,int)",
        "public int PicturesLent.wished(int,int)",
        "public int PicturesLent.artist(int)",
        "public int PicturesLent.count(int)");

    private static final String[] NOT_ALLOWED = {
        "throw", "throws", "try", "catch", "synchronized", "assert", "hashCode", "toString", "package", "->", "::",
        "protected", "volatile", "native", "Thread", "Random", "\\w+Exact"
    };

    public static void main(String[] args) throws Exception {
        Class<?> face = PicturesLent.class;
        Due.yes("public and final", Modifier.isPublic(face.getModifiers()) && Modifier.isFinal(face.getModifiers()));
        methodsAreThoseOfTheDocument(face);
        nothingElseIsSeen(face);
        privateNamesDiffer(face);
        Due.is("NONE", -1, PicturesLent.NONE);
        sourceHasNothingThatIsNotAllowed();
        Due.end();
    }

    private static void methodsAreThoseOfTheDocument(Class<?> face) {
        Set<String> seen = new TreeSet<>();
        for (Method m : face.getDeclaredMethods()) {
            if (Modifier.isPublic(m.getModifiers())) {
                seen.add(m.toString());
            }
        }
        for (String m : METHODS) {
            Due.yes("has " + m, seen.remove(m));
        }
        Due.is("methods beside those of the document " + seen, 0, seen.size());
    }

    private static void nothingElseIsSeen(Class<?> face) {
        List<Member> others = new ArrayList<>();
        for (Field f : face.getDeclaredFields()) {
            boolean isNone = f.getName().equals("NONE") && f.toString().equals("public static final int PicturesLent.NONE");
            if (!isNone) {
                others.add(f);
            }
            Due.yes(f + " is no static state", !Modifier.isStatic(f.getModifiers()) || Modifier.isFinal(f.getModifiers()));
        }
        for (Method m : face.getDeclaredMethods()) {
            if (!METHODS.contains(m.toString())) {
                others.add(m);
            }
        }
        for (Member m : others) {
            Due.yes(m + " is private", Modifier.isPrivate(m.getModifiers()));
        }
        Constructor<?>[] made = face.getDeclaredConstructors();
        Due.is("constructors", 1, made.length);
        Due.yes("public constructor without arguments",
            made[0].getParameterCount() == 0 && Modifier.isPublic(made[0].getModifiers()));
    }

    private static void privateNamesDiffer(Class<?> face) {
        Set<String> names = new TreeSet<>();
        for (Method m : face.getDeclaredMethods()) {
            if (Modifier.isPublic(m.getModifiers())) {
                names.add(m.getName());
            }
        }
        List<Class<?>> all = new ArrayList<>(List.of(face.getDeclaredClasses()));
        Due.yes("at most twelve classes", all.size() < 12);
        for (Class<?> inside : all) {
            Due.yes(inside + " is static", Modifier.isStatic(inside.getModifiers()));
        }
        all.add(face);
        for (Class<?> c : all) {
            for (Method m : c.getDeclaredMethods()) {
                Due.yes(m + " has a name of its own", METHODS.contains(m.toString()) || !names.contains(m.getName()));
                Due.yes(m + " has at most seven parameters", m.getParameterCount() <= 7);
            }
        }
    }

    private static void sourceHasNothingThatIsNotAllowed() throws Exception {
        String source = Files.readString(Path.of("src/main/java/PicturesLent.java"));
        String code = source.replaceAll("(?s)/\\*.*?\\*/", "").replaceAll("//[^\n]*", "");
        for (String word : NOT_ALLOWED) {
            boolean isName = Character.isLetter(word.charAt(0));
            Matcher found = Pattern.compile(isName ? "\\b" + word + "\\b" : word).matcher(code);
            Due.no("the source has " + word, found.find());
        }
        Matcher imports = Pattern.compile("import ([^;]*);").matcher(code);
        while (imports.find()) {
            Due.yes("import " + imports.group(1), imports.group(1).equals("java.util.ArrayList"));
        }
    }
}
