import java.util.regex.Matcher;
import java.util.regex.Pattern;

/** "[place] from => to": a change of the class in a method, "method" or "Class.method", or anywhere. */
record SourceChange(String place, String from, String to) {
    private static final Pattern FORM = Pattern.compile("(?:\\[([\\w.]+)\\] )?(.+?) =>(?: (.*))?");

    static SourceChange of(String text) {
        Matcher form = FORM.matcher(text);
        if (!form.matches()) {
            throw new IllegalStateException("can't read the change: " + text);
        }
        return new SourceChange(form.group(1), form.group(2), form.group(3) == null ? "" : form.group(3));
    }

    String apply(String source) {
        int begin = place == null ? 0 : beginOfMethod(source);
        int end = place == null ? source.length() : endOfMethod(source, begin);
        String part = source.substring(begin, end);
        int found = part.indexOf(from);
        if (found < 0 || part.indexOf(from, found + 1) >= 0) {
            throw new IllegalStateException("not to be found exactly once in the class: " + this);
        }
        return source.substring(0, begin + found) + to + source.substring(begin + found + from.length());
    }

    private int beginOfMethod(String source) {
        String[] names = place.split("\\.");
        int owner = names.length == 1 ? 0 : source.indexOf(" class " + names[0] + " {");
        Matcher method = Pattern.compile("\\w " + names[names.length - 1] + "\\([^)]*\\) \\{").matcher(source);
        if (owner < 0 || !method.find(owner)) {
            throw new IllegalStateException("no such method: " + this);
        }
        return method.start();
    }

    private static int endOfMethod(String source, int begin) {
        int depth = 0;
        for (int i = source.indexOf('{', begin); i < source.length(); i++) {
            depth += source.charAt(i) == '{' ? 1 : source.charAt(i) == '}' ? -1 : 0;
            if (depth == 0) {
                return i + 1;
            }
        }
        return source.length();
    }
}
