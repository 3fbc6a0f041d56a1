import java.util.Objects;

/** Counts and prints what is not as due; every test ends with finish. */
final class Check {
    interface Call {
        Object answer();
    }

    /** So many calls may an object get; what later ones answer is free. */
    static final int MOST_CALLS = 512;
    /** What digest takes of them on a full board: ten applicants with ninety pairs, six posts, both counts, the day. */
    static final int DIGEST_CALLS = 1 + 10 * 6 + 90 + 1 + 6 * 5 + 1;

    private static int checks = 0;
    private static int wrong = 0;

    private Check() {
    }

    /** What the call answers, or the simple name of the exception that it throws. */
    static String outcome(Call call) {
        try {
            return Objects.toString(call.answer());
        } catch (RuntimeException e) {
            return e.getClass().getSimpleName();
        }
    }

    static void due(String what, Object want, Call call) {
        checks++;
        String got = outcome(call);
        if (!got.equals(Objects.toString(want))) {
            wrong++;
            System.out.println(what + ": answered " + got + ", due is " + want);
        }
    }

    static void illegalArgument(String what, Call call) {
        due(what, "IllegalArgumentException", call);
    }

    static void illegalState(String what, Call call) {
        due(what, "IllegalStateException", call);
    }

    static void noSuchElement(String what, Call call) {
        due(what, "NoSuchElementException", call);
    }

    static void outOfBounds(String what, Call call) {
        due(what, "IndexOutOfBoundsException", call);
    }

    static void unsupported(String what, Call call) {
        due(what, "UnsupportedOperationException", call);
    }

    static void arithmetic(String what, Call call) {
        due(what, "ArithmeticException", call);
    }

    static void feed(CloudInterviews x, String text) {
        for (int i = 0; i < text.length(); i++) {
            x.feed(text.charAt(i));
        }
    }

    static int execute(CloudInterviews x, String text) {
        feed(x, text);
        return x.execute();
    }

    /** The whole output, whatever its length, up to the first index that is refused. */
    static String wholeOutput(CloudInterviews x) {
        StringBuilder text = new StringBuilder();
        for (int i = 0; i < MOST_CALLS; i++) {
            int index = i;
            String found = outcome(() -> x.outputCharacter(index));
            if (found.length() != 1) {
                return text.append('|').append(found).toString();
            }
            text.append(found);
        }
        return text.toString();
    }

    static String output(CloudInterviews x, int length) {
        StringBuilder text = new StringBuilder();
        for (int i = 0; i < length; i++) {
            text.append(x.outputCharacter(i));
        }
        return text.toString();
    }

    /** Everything that changes can change, as far as calls that change nothing tell it, in at most DIGEST_CALLS calls. */
    static String digest(CloudInterviews x) {
        StringBuilder all = new StringBuilder();
        int[] ids = new int[x.applicantCount()];
        for (int i = 0; i < ids.length; i++) {
            ids[i] = x.applicant(i);
        }
        for (int id : ids) {
            all.append(id).append(x.shape(id)).append(x.whiteness(id)).append('/').append(x.rain(id)).append('$')
                    .append(x.coins(id)).append('@').append(outcome(() -> x.postOf(id))).append('<');
            for (int giver : ids) {
                if (giver != id && x.hasReference(giver, id)) {
                    all.append(giver).append(',');
                }
            }
            all.append(' ');
        }
        all.append('|');
        int posts = x.postCount();
        for (int post = 0; post < posts; post++) {
            int p = post;
            all.append(x.requiredShape(p)).append(x.lowestWhiteness(p)).append('/').append(x.highestRain(p)).append('=')
                    .append(x.wage(p)).append('<').append(outcome(() -> x.filledBy(p))).append(' ');
        }
        return all.append('|').append(x.day()).toString();
    }

    static void finish(String test) {
        System.out.println(test + ": " + checks + " checks, " + wrong + " not as due");
        if (wrong != 0) {
            System.exit(1);
        }
    }
}
