import java.util.Objects;

/** Counts and prints what is not as due; every test ends with finish. */
final class Check {
    interface Call {
        Object answer();
    }

    private static int checks = 0;
    private static int wrong = 0;

    private Check() {
    }

    /** What the call answers, or the simple name of the exception that it throws. */
    static String outcome(Call call) {
        try {
            return Objects.toString(call.answer());
        } catch (RuntimeException e) {
            return e.getClass().getSimpleName();
        }
    }

    static void due(String what, Object want, Call call) {
        checks++;
        String got = outcome(call);
        if (!got.equals(Objects.toString(want))) {
            wrong++;
            System.out.println(what + ": answered " + got + ", due is " + want);
        }
    }

    static void illegalArgument(String what, Call call) {
        due(what, "IllegalArgumentException", call);
    }

    static void illegalState(String what, Call call) {
        due(what, "IllegalStateException", call);
    }

    static void noSuchElement(String what, Call call) {
        due(what, "NoSuchElementException", call);
    }

    static void outOfBounds(String what, Call call) {
        due(what, "IndexOutOfBoundsException", call);
    }

    static void unsupported(String what, Call call) {
        due(what, "UnsupportedOperationException", call);
    }

    static void arithmetic(String what, Call call) {
        due(what, "ArithmeticException", call);
    }

    static void feed(CloudInterviews x, String text) {
        for (int i = 0; i < text.length(); i++) {
            x.feed(text.charAt(i));
        }
    }

    static int execute(CloudInterviews x, String text) {
        feed(x, text);
        return x.execute();
    }

    static String output(CloudInterviews x, int length) {
        StringBuilder text = new StringBuilder();
        for (int i = 0; i < length; i++) {
            text.append(x.outputCharacter(i));
        }
        return text.toString();
    }

    /** Everything that changes can change, as far as calls that change nothing tell it. */
    static String digest(CloudInterviews x) {
        StringBuilder all = new StringBuilder();
        for (int i = 0; i < x.applicantCount(); i++) {
            int id = x.applicant(i);
            all.append(id).append(x.shape(id)).append(x.whiteness(id)).append('/').append(x.rain(id)).append('$')
                    .append(x.coins(id)).append('@').append(outcome(() -> x.postOf(id))).append('<');
            for (int j = 0; j < x.applicantCount(); j++) {
                if (x.hasReference(x.applicant(j), id)) {
                    all.append(x.applicant(j)).append(',');
                }
            }
            all.append(' ');
        }
        all.append('|');
        for (int post = 0; post < x.postCount(); post++) {
            int p = post;
            all.append(x.requiredShape(p)).append(x.lowestWhiteness(p)).append('/').append(x.highestRain(p)).append('=')
                    .append(x.wage(p)).append('<').append(outcome(() -> x.filledBy(p))).append(' ');
        }
        return all.append('|').append(x.day()).toString();
    }

    static void finish(String test) {
        System.out.println(test + ": " + checks + " checks, " + wrong + " not as due");
        if (wrong != 0) {
            System.exit(1);
        }
    }
}
