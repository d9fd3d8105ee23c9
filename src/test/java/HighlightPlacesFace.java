import java.lang.reflect.Field;
import java.lang.reflect.Member;
import java.lang.reflect.Method;
import java.lang.reflect.Modifier;
import java.nio.file.Files;
import java.nio.file.Path;
import java.util.ArrayList;
import java.util.List;
import java.util.TreeSet;
import java.util.regex.Matcher;
import java.util.regex.Pattern;

/** The class has the document's face and no more, and its file keeps to the rules that a look can tell. */
public final class HighlightPlacesFace {
    private static int wrong = 0;

    private static void due(String what, Object got, Object want) {
        if (!got.equals(want)) {
            wrong++;
            System.out.println(what + " is " + got + ", due is " + want);
        }
    }

    private static final String[] FACE = {
        "public static final int BAD", "public static final int FULL", "public HighlightPlaces()",
        "public int feed(int,int,int,int,int)", "public int cut(int)", "public int text()",
        "public int query()", "public int limit(int)", "public int matches()", "public int word(int,int)",
        "public int letter(int,int)", "public int sentence(int,int)", "public int leaf(int,int)",
        "public int place(int,int)", "public int passages(int)", "public int passage(int,int)",
        "public int print(boolean)", "public int printed(int)", "public int count(int)"
    };

    private static String faceOf(Member member) {
        return member.toString().replace("HighlightPlaces.", "");
    }

    private static void checkFace() {
        TreeSet<String> found = new TreeSet<>();
        List<Member> members = new ArrayList<>();
        members.addAll(List.of(HighlightPlaces.class.getDeclaredFields()));
        members.addAll(List.of(HighlightPlaces.class.getDeclaredMethods()));
        members.addAll(List.of(HighlightPlaces.class.getDeclaredConstructors()));
        for (Member member : members) {
            if (!Modifier.isPrivate(member.getModifiers()) && !member.isSynthetic()) {
                found.add(faceOf(member));
            }
        }
        due("the face", found, new TreeSet<>(List.of(FACE)));
        due("final", Modifier.isFinal(HighlightPlaces.class.getModifiers()), true);
        due("BAD", HighlightPlaces.BAD, -1);
        due("FULL", HighlightPlaces.FULL, -2);
    }

    private static void checkInside() {
        TreeSet<String> names = new TreeSet<>();
        for (Method method : HighlightPlaces.class.getDeclaredMethods()) {
            if (Modifier.isPublic(method.getModifiers())) {
                names.add(method.getName());
            }
        }
        Class<?>[] inside = HighlightPlaces.class.getDeclaredClasses();
        due("whether it has some twelve classes at most", inside.length <= 13, true);
        checkMembers(HighlightPlaces.class, names);
        for (Class<?> one : inside) {
            due(one + " static", Modifier.isStatic(one.getModifiers()), true);
            due(one + " public", Modifier.isPublic(one.getModifiers()), false);
            due(one + " protected", Modifier.isProtected(one.getModifiers()), false);
            checkMembers(one, names);
        }
    }

    private static void checkMembers(Class<?> one, TreeSet<String> publicNames) {
        int fields = 0;
        for (Field field : one.getDeclaredFields()) {
            boolean constant = Modifier.isStatic(field.getModifiers());
            due(field + " is final, if it is static", !constant || Modifier.isFinal(field.getModifiers()), true);
            fields += constant ? 0 : 1;
        }
        due(one + " has some twenty fields at most", fields <= 22, true);
        for (Method method : one.getDeclaredMethods()) {
            boolean hidden = Modifier.isPrivate(method.getModifiers());
            due(method + " bears a public name", hidden && publicNames.contains(method.getName()), false);
            due(method + " takes at most seven", method.getParameterCount() <= 7, true);
        }
    }

    /** Words that LANGUAGE.md leaves no use for. */
    private static void checkSource() throws Exception {
        String source = Files.readString(Path.of("src/main/java/HighlightPlaces.java"));
        String code = source.replaceAll("(?s)/\\*.*?\\*/", "").replaceAll("//[^\n]*", "");
        Pattern refused = Pattern.compile("\\b(throw|throws|try|catch|finally|synchronized|volatile|assert|package|"
            + "protected|native|Object|Thread|Random|Class|Runtime|nanoTime|currentTimeMillis)\\b|::|Exact\\b|"
            + "\\bSystem\\b(?!\\.arraycopy)|\\bimport\\b(?! java\\.util\\.(ArrayList|List|Iterator|Arrays);)");
        Matcher matcher = refused.matcher(code);
        while (matcher.find()) {
            due("a word that is ruled out", matcher.group(), "");
        }
    }

    public static void main(String[] args) throws Exception {
        checkFace();
        checkInside();
        checkSource();
        System.out.println(wrong == 0 ? "all answers are as due" : wrong + " answers are not as due");
        if (wrong != 0) {
            System.exit(1);
        }
    }
}
