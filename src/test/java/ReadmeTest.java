import java.io.IOException;
import java.lang.reflect.InvocationTargetException;
import java.nio.file.Files;
import java.nio.file.Path;
import java.util.regex.Matcher;
import java.util.regex.Pattern;

/** Makes the calls that README.md shows, so that what it tells stays true. */
public final class ReadmeTest {
    private static final Due DUE = new Due("ReadmeTest");
    private static final Pattern CALL = Pattern.compile("x\\.(\\w+)\\(([-0-9, ]*)\\) +// ([^:]*)(:.*)?");
    private static final Pattern TEXT = Pattern.compile("put \"(.*)\"");
    private static final Pattern NUMBER = Pattern.compile("put (\\d+)");

    private static RegionRooms x;

    public static void main(String[] args) throws IOException, ReflectiveOperationException {
        String readme = Files.readString(Path.of("README.md"));
        String here = Files.readString(Path.of("src/test/java/ReadmeTest.java"));
        String shown = block(readme, "java").replaceAll("(?m)^", "    ");
        DUE.is("the method that README.md shows is the one that puts texts here", here.contains(shown), true);
        for (String row : block(readme, "text").split("\n")) {
            follow(row);
        }
        DUE.end();
    }

    private static String block(String readme, String form) {
        String opening = "\n```" + form + "\n";
        int from = readme.indexOf(opening) + opening.length();
        int to = readme.indexOf("\n```", from);
        boolean there = readme.contains(opening) && to > from;
        DUE.is("README.md has a block of " + form, there, true);
        return there ? readme.substring(from, to) : "no such block";
    }

    static void put(RegionRooms x, String text) {
        int[] n = new int[5];
        for (int from = 0; from < text.length(); from += 20) {
            for (int i = 0; i < 20; i++) {
                int sign = from + i < text.length() ? text.charAt(from + i) : 0;
                n[i / 4] = n[i / 4] << 8 | sign;
            }
            x.feed(n[0], n[1], n[2], n[3], n[4]);
        }
        x.end(text.length());
    }

    private static void follow(String row) throws ReflectiveOperationException {
        Matcher call = CALL.matcher(row);
        Matcher text = TEXT.matcher(row);
        Matcher number = NUMBER.matcher(row);
        if (row.equals("x = new RegionRooms()")) {
            x = new RegionRooms();
        } else if (text.matches()) {
            put(x, text.group(1));
        } else if (number.matches()) {
            put(x, String.valueOf((char) Integer.parseInt(number.group(1))));
        } else {
            DUE.is("a row of another form: " + row, call.matches(), true);
            if (call.matches()) {
                String got = answer(call.group(1), call.group(2));
                DUE.is(row + " (answered: " + got + ")", got.equals(call.group(3).strip()), true);
            }
        }
    }

    private static String answer(String name, String told) throws ReflectiveOperationException {
        String[] pieces = told.isBlank() ? new String[0] : told.split(", ");
        Class<?>[] types = new Class<?>[pieces.length];
        Object[] numbers = new Object[pieces.length];
        for (int i = 0; i < pieces.length; i++) {
            types[i] = int.class;
            numbers[i] = Integer.parseInt(pieces[i]);
        }
        try {
            return String.valueOf(RegionRooms.class.getMethod(name, types).invoke(x, numbers));
        } catch (InvocationTargetException e) {
            return "throws " + e.getCause().getClass().getSimpleName();
        }
    }
}
