import java.util.ArrayList;
import java.util.List;
import java.util.regex.Matcher;
import java.util.regex.Pattern;

/** A text of the model: all tokens first, then statement by statement along their forms. */
final class ModelText {
    private static final Pattern TOKEN = Pattern.compile("[a-z]+|[0-9]+|[^ \n]", Pattern.DOTALL);
    /** R risk, S setting, V its value, D day, H hour, A athlete, a and b days, h filed hour,
     *  P place, F failure, O outcome. */
    private static final String[] FORMS = {
        "athlete R", "set S V", "at D H", "file A a b h P", "test A P O", "appeal A F"};

    private final Model model;
    private final String text;
    private final List<String> tokens = new ArrayList<>();
    private final List<Integer> places = new ArrayList<>();

    ModelText(Model model, String text) {
        this.model = model;
        this.text = text;
        Matcher m = TOKEN.matcher(text);
        while (m.find()) {
            tokens.add(m.group());
            places.add(m.start());
        }
        tokens.add("");
        places.add(text.length());
    }

    int run() {
        int done = 0;
        int i = 0;
        while (i < tokens.size() - 1) {
            String form = null;
            for (String f : FORMS) {
                if (f.split(" ")[0].equals(tokens.get(i))) {
                    form = f;
                }
            }
            if (form == null) {
                return fault(1, i);
            }
            String[] parts = form.split(" ");
            int[] v = new int[parts.length];
            for (int k = 1; k < parts.length; k++) {
                String t = tokens.get(i + k);
                if (parts[k].equals("O")) {
                    if (!t.equals("found") && !t.equals("missed")) {
                        return fault(1, i + k);
                    }
                    v[k] = t.equals("found") ? 1 : 0;
                } else if (!t.matches("[0-9]{1,4}")) {
                    return fault(1, i + k);
                } else {
                    v[k] = Integer.parseInt(t);
                    if (!fits(parts[k], v, k)) {
                        return fault(2, i + k);
                    }
                }
            }
            if (!tokens.get(i + parts.length).equals(";")) {
                return fault(1, i + parts.length);
            }
            if (!done(parts[0], v)) {
                return fault(3, i);
            }
            done++;
            i += parts.length + 1;
        }
        return done;
    }

    private int fault(int kind, int token) {
        model.fault = kind + 8 * places.get(token);
        return -1;
    }

    private boolean fits(String what, int[] v, int k) {
        int n = v[k];
        switch (what) {
            case "R": return n >= 1 && n <= 9;
            case "S": return n <= 5;
            case "V": return n >= Model.BOUNDS[v[1]][0] && n <= Model.BOUNDS[v[1]][1];
            case "D": return n <= 999;
            case "H": return n <= 23;
            case "A": return n < model.men.size();
            case "a": return n <= 1099;
            case "b": return n <= 1099 && n >= v[k - 1] && n < v[k - 1] + 60;
            case "h": return n >= 5 && n <= 22;
            case "P": return n <= 9;
            default: return n < model.men.get(v[1]).failures.size();
        }
    }

    private boolean done(String word, int[] v) {
        switch (word) {
            case "athlete": return model.athlete(v[1]) >= 0;
            case "set": model.set(v[1], v[2]); return true;
            case "at": return model.at(v[1], v[2]) >= 0;
            case "file": return model.file(v[1], v[2], v[3], v[4], v[5]) >= 0;
            case "test": return model.test(v[1], v[2], v[3] == 1) >= 0;
            default: return model.appeal(v[1], v[2]);
        }
    }
}
