import java.util.ArrayList;
import java.util.Comparator;
import java.util.List;
import java.util.NoSuchElementException;
import java.util.TreeSet;
import java.util.function.Function;
import java.util.regex.Matcher;
import java.util.regex.Pattern;

/** The board of the document once more, written another way: whole copies, sorting, trying everything, and a regex. */
final class NaiveBoard {
    static final class Cloud {
        int id;
        char shape;
        int whiteness;
        int rain;
        int coins;
        Offer post;
        TreeSet<Integer> references = new TreeSet<>();
    }

    static final class Offer {
        char shape;
        int lowest;
        int highest;
        int wage;
    }

    static final class State {
        List<Cloud> clouds = new ArrayList<>();
        List<Offer> offers = new ArrayList<>();
        int nextId;
        int day;

        State copy() {
            State copy = new State();
            copy.nextId = nextId;
            copy.day = day;
            copy.offers.addAll(offers);
            for (Cloud cloud : clouds) {
                Cloud twin = new Cloud();
                twin.id = cloud.id;
                twin.shape = cloud.shape;
                twin.whiteness = cloud.whiteness;
                twin.rain = cloud.rain;
                twin.coins = cloud.coins;
                twin.post = cloud.post;
                twin.references.addAll(cloud.references);
                copy.clouds.add(twin);
            }
            return copy;
        }
    }

    private static final String COMMAND = "(?:apply [csn]\\d{1,3}/\\d{1,3}|leave \\d{1,3}"
            + "|post [csn*]\\d{1,3}/\\d{1,3}=\\d{1,3}|close \\d|hire \\d<\\d{1,3}|dismiss \\d"
            + "|refer \\d{1,3}>\\d{1,3}|match|day)";
    private static final Pattern TEXT = Pattern.compile(COMMAND + "(?:;" + COMMAND + ")*");

    State now = new State();
    private State kept;
    private final List<State> undoable = new ArrayList<>();
    private String buffer = "";
    private String written = "";
    private int error = -1;
    private int failed = -1;

    // Every change is made on a copy, so one that throws leaves nothing behind.
    private int change(Function<State, Integer> what) {
        State old = now;
        now = old.copy();
        try {
            int answer = what.apply(now);
            undoable.add(old);
            if (undoable.size() > 8) {
                undoable.remove(0);
            }
            return answer;
        } catch (RuntimeException e) {
            now = old;
            throw e;
        }
    }

    private Cloud cloud(int id) {
        return now.clouds.stream().filter(c -> c.id == id).findFirst().orElseThrow();
    }

    private Offer offer(int index) {
        return now.offers.get(inRange(index, now.offers.size()));
    }

    private static int inRange(int index, int size) {
        if (index < 0 || index >= size) {
            throw new IndexOutOfBoundsException();
        }
        return index;
    }

    private static void demand(boolean holds, RuntimeException otherwise) {
        if (!holds) {
            throw otherwise;
        }
    }

    private Cloud filler(Offer offer) {
        return now.clouds.stream().filter(c -> c.post == offer).findFirst().orElse(null);
    }

    private boolean suitable(Cloud cloud, Offer offer) {
        return (offer.shape == '*' || offer.shape == cloud.shape)
                && cloud.whiteness >= offer.lowest && cloud.rain <= offer.highest;
    }

    private int points(Cloud cloud) {
        return cloud.whiteness - cloud.rain + 10 * cloud.references.size();
    }

    private List<Cloud> byPoints() {
        List<Cloud> sorted = new ArrayList<>(now.clouds);
        sorted.sort(Comparator.comparingInt((Cloud c) -> -points(c)).thenComparingInt(c -> c.id));
        return sorted;
    }

    private List<Offer> byWage() {
        List<Offer> sorted = new ArrayList<>(now.offers);
        sorted.sort(Comparator.comparingInt((Offer o) -> -o.wage).thenComparingInt(o -> now.offers.indexOf(o)));
        return sorted;
    }

    // The changes

    int addApplicant(char shape, int whiteness, int rain) {
        return change(s -> {
            demand("csn".indexOf(shape) >= 0 && whiteness >= 0 && whiteness <= 100 && rain >= 0 && rain <= 50,
                    new IllegalArgumentException());
            demand(s.clouds.size() < 10, new IllegalStateException());
            Cloud cloud = new Cloud();
            cloud.id = s.nextId++;
            cloud.shape = shape;
            cloud.whiteness = whiteness;
            cloud.rain = rain;
            s.clouds.add(cloud);
            return cloud.id;
        });
    }

    int removeApplicant(int id) {
        return change(s -> leave(cloud(id)));
    }

    private int leave(Cloud leaver) {
        now.clouds.remove(leaver);
        now.clouds.forEach(c -> c.references.remove(leaver.id));
        return leaver.coins;
    }

    int rejectRainy(int limit) {
        return change(s -> {
            demand(limit >= 0 && limit <= 50, new IllegalArgumentException());
            List<Cloud> rejected = s.clouds.stream().filter(c -> c.post == null && c.rain > limit).toList();
            rejected.forEach(this::leave);
            return rejected.size();
        });
    }

    int addReference(int from, int to) {
        return change(s -> {
            Cloud giver = cloud(from);
            Cloud receiver = cloud(to);
            demand(giver != receiver, new IllegalArgumentException());
            demand(receiver.references.add(from), new IllegalStateException());
            return receiver.references.size();
        });
    }

    int removeReference(int from, int to) {
        return change(s -> {
            cloud(from);
            demand(cloud(to).references.remove(from), new NoSuchElementException());
            return cloud(to).references.size();
        });
    }

    int openPost(char shape, int lowest, int highest, int wage) {
        return change(s -> {
            demand("csn*".indexOf(shape) >= 0 && lowest >= 0 && lowest <= 100 && highest >= 0 && highest <= 50
                    && wage >= 1 && wage <= 99, new IllegalArgumentException());
            demand(s.offers.size() < 6, new IllegalStateException());
            Offer offer = new Offer();
            offer.shape = shape;
            offer.lowest = lowest;
            offer.highest = highest;
            offer.wage = wage;
            s.offers.add(offer);
            return s.offers.size() - 1;
        });
    }

    boolean closePost(int post) {
        return 1 == change(s -> {
            Cloud filler = filler(offer(post));
            s.offers.remove(post);
            if (filler != null) {
                filler.post = null;
            }
            return filler == null ? 0 : 1;
        });
    }

    int hire(int post, int id) {
        return change(s -> {
            Offer offer = offer(post);
            Cloud cloud = cloud(id);
            demand(filler(offer) == null && cloud.post == null, new IllegalStateException());
            demand(suitable(cloud, offer), new UnsupportedOperationException());
            cloud.post = offer;
            return vacantCount();
        });
    }

    int hireBest(int post) {
        return change(s -> {
            Offer offer = offer(post);
            demand(filler(offer) == null, new IllegalStateException());
            Cloud best = cloud(bestCandidate(post));
            best.post = offer;
            return best.id;
        });
    }

    int dismiss(int post) {
        return change(s -> {
            Cloud filler = filler(offer(post));
            demand(filler != null, new IllegalStateException());
            filler.post = null;
            return filler.id;
        });
    }

    int match() {
        return change(s -> serialChoice());
    }

    /** All agree on who is better and what is better, so the only stable matching lets the best choose first. */
    private int serialChoice() {
        int hired = 0;
        for (Cloud cloud : byPoints()) {
            for (Offer offer : byWage()) {
                if (cloud.post == null && filler(offer) == null && suitable(cloud, offer)) {
                    cloud.post = offer;
                    hired++;
                }
            }
        }
        return hired;
    }

    int passDays(int days) {
        return change(s -> {
            demand(days >= 1 && days <= 30, new IllegalArgumentException());
            int dismissals = 0;
            for (int i = 0; i < days; i++) {
                dismissals += passOne();
            }
            return dismissals;
        });
    }

    private int passOne() {
        now.day++;
        List<Cloud> hired = now.clouds.stream().filter(c -> c.post != null).toList();
        hired.forEach(c -> c.coins += c.post.wage);
        hired.forEach(c -> c.rain = Math.min(50, c.rain + 1));
        List<Cloud> unsuited = hired.stream().filter(c -> !suitable(c, c.post)).toList();
        unsuited.forEach(c -> c.post = null);
        return unsuited.size();
    }

    // The questions

    int applicantCount() {
        return now.clouds.size();
    }

    int waitingCount() {
        return (int) now.clouds.stream().filter(c -> c.post == null).count();
    }

    int applicant(int position) {
        return now.clouds.get(inRange(position, now.clouds.size())).id;
    }

    char shape(int id) {
        return cloud(id).shape;
    }

    int whiteness(int id) {
        return cloud(id).whiteness;
    }

    int rain(int id) {
        return cloud(id).rain;
    }

    int coins(int id) {
        return cloud(id).coins;
    }

    boolean isHired(int id) {
        return cloud(id).post != null;
    }

    int postOf(int id) {
        Offer post = cloud(id).post;
        demand(post != null, new NoSuchElementException());
        return now.offers.indexOf(post);
    }

    int score(int id) {
        return points(cloud(id));
    }

    int applicantByScore(int rank) {
        return byPoints().get(inRange(rank, now.clouds.size())).id;
    }

    boolean hasReference(int from, int to) {
        cloud(from);
        return cloud(to).references.contains(from);
    }

    int referencesFor(int id) {
        return cloud(id).references.size();
    }

    int referencesFrom(int id) {
        cloud(id);
        return (int) now.clouds.stream().filter(c -> c.references.contains(id)).count();
    }

    int postCount() {
        return now.offers.size();
    }

    int vacantCount() {
        return (int) now.offers.stream().filter(o -> filler(o) == null).count();
    }

    char requiredShape(int post) {
        return offer(post).shape;
    }

    int lowestWhiteness(int post) {
        return offer(post).lowest;
    }

    int highestRain(int post) {
        return offer(post).highest;
    }

    int wage(int post) {
        return offer(post).wage;
    }

    int filledBy(int post) {
        Cloud filler = filler(offer(post));
        demand(filler != null, new NoSuchElementException());
        return filler.id;
    }

    boolean suits(int id, int post) {
        Cloud cloud = cloud(id);
        return suitable(cloud, offer(post));
    }

    int favouritePost(int id) {
        Cloud cloud = cloud(id);
        return now.offers.indexOf(byWage().stream().filter(o -> suitable(cloud, o)).findFirst().orElseThrow());
    }

    int bestCandidate(int post) {
        Offer offer = offer(post);
        return byPoints().stream().filter(c -> c.post == null && suitable(c, offer)).findFirst().orElseThrow().id;
    }

    int candidateCount(int post) {
        Offer offer = offer(post);
        return (int) now.clouds.stream().filter(c -> c.post == null && suitable(c, offer)).count();
    }

    /** Tries all ways to fill the vacant posts from the given one on. */
    int mostHires(int from) {
        if (from >= now.offers.size()) {
            return 0;
        }
        Offer offer = now.offers.get(from);
        int most = mostHires(from + 1);
        if (filler(offer) == null) {
            for (Cloud cloud : now.clouds) {
                if (cloud.post == null && suitable(cloud, offer)) {
                    cloud.post = offer;
                    most = Math.max(most, 1 + mostHires(from + 1));
                    cloud.post = null;
                }
            }
        }
        return most;
    }

    int blockingPairs() {
        int pairs = 0;
        List<Offer> wages = byWage();
        List<Cloud> ranks = byPoints();
        for (Cloud cloud : now.clouds) {
            for (Offer offer : now.offers) {
                boolean wants = cloud.post == null || wages.indexOf(offer) < wages.indexOf(cloud.post);
                Cloud filler = filler(offer);
                boolean wanted = filler == null || ranks.indexOf(cloud) < ranks.indexOf(filler);
                if (suitable(cloud, offer) && wants && wanted) {
                    pairs++;
                }
            }
        }
        return pairs;
    }

    int day() {
        return now.day;
    }

    /** Lets days pass on a copy; after fifty days the rain of all who are hired is at its highest. */
    int daysUntilDismissal(int id) {
        postOf(id);
        State real = now;
        now = real.copy();
        int days = 0;
        while (days <= 51 && cloud(id).post != null) {
            passOne();
            days++;
        }
        boolean dismissed = cloud(id).post == null;
        now = real;
        demand(dismissed, new NoSuchElementException());
        return days;
    }

    int dailyWages() {
        return now.offers.stream().filter(o -> filler(o) != null).mapToInt(o -> o.wage).sum();
    }

    double meanScore() {
        demand(!now.clouds.isEmpty(), new ArithmeticException());
        return (double) now.clouds.stream().mapToInt(this::points).sum() / (double) now.clouds.size();
    }

    float filledFraction() {
        demand(!now.offers.isEmpty(), new ArithmeticException());
        return (float) (now.offers.size() - vacantCount()) / (float) now.offers.size();
    }

    int writeApplicant(int id) {
        Cloud cloud = cloud(id);
        written = cloud.shape + "" + cloud.whiteness + "/" + cloud.rain
                + (cloud.references.isEmpty() ? "" : "+" + cloud.references.size())
                + (cloud.coins == 0 ? "" : "$" + cloud.coins)
                + (cloud.post == null ? "" : "@" + now.offers.indexOf(cloud.post));
        return written.length();
    }

    int writePosts() {
        List<String> parts = now.offers.stream().map(o -> filler(o) == null ? "-" : "" + filler(o).id).toList();
        written = String.join(" ", parts);
        return written.length();
    }

    char outputCharacter(int index) {
        return written.charAt(inRange(index, written.length()));
    }

    // Commands, undo and saved state

    int feed(char character) {
        demand(buffer.length() < 60, new IllegalStateException());
        buffer += character;
        return buffer.length();
    }

    int execute() {
        String text = buffer;
        buffer = "";
        if (!TEXT.matcher(text).matches()) {
            error = longestBeginning(text);
            throw new IllegalArgumentException();
        }
        return change(s -> {
            String[] commands = text.split(";");
            List<State> changes = new ArrayList<>(undoable);
            for (int i = 0; i < commands.length; i++) {
                try {
                    perform(commands[i]);
                } catch (RuntimeException e) {
                    failed = i;
                    throw new UnsupportedOperationException();
                } finally {
                    undoable.clear();
                    undoable.addAll(changes);
                }
            }
            return commands.length;
        });
    }

    /** Returns the length of the longest beginning of a text that some well-formed text has too. */
    private static int longestBeginning(String text) {
        int length = text.length();
        while (length > 0) {
            Matcher matcher = TEXT.matcher(text.substring(0, length));
            if (matcher.matches() || matcher.hitEnd()) {
                return length;
            }
            length--;
        }
        return length;
    }

    private void perform(String command) {
        String[] words = command.split(" ");
        String rest = words.length < 2 ? "" : words[1];
        boolean shaped = words[0].equals("apply") || words[0].equals("post");
        int[] numbers = (shaped ? rest.substring(1) : rest).isEmpty() ? new int[0]
                : Pattern.compile("[^0-9]").splitAsStream(shaped ? rest.substring(1) : rest)
                .mapToInt(Integer::parseInt).toArray();
        switch (words[0]) {
            case "apply" -> addApplicant(rest.charAt(0), numbers[0], numbers[1]);
            case "leave" -> removeApplicant(numbers[0]);
            case "post" -> openPost(rest.charAt(0), numbers[0], numbers[1], numbers[2]);
            case "close" -> closePost(numbers[0]);
            case "hire" -> hire(numbers[0], numbers[1]);
            case "dismiss" -> dismiss(numbers[0]);
            case "refer" -> addReference(numbers[0], numbers[1]);
            case "match" -> match();
            default -> passDays(1);
        }
    }

    int errorPosition() {
        demand(error >= 0, new NoSuchElementException());
        return error;
    }

    int failedCommand() {
        demand(failed >= 0, new NoSuchElementException());
        return failed;
    }

    int undo() {
        demand(!undoable.isEmpty(), new IllegalStateException());
        now = undoable.remove(undoable.size() - 1);
        return undoable.size();
    }

    int undoCount() {
        return undoable.size();
    }

    int save() {
        kept = now.copy();
        return now.clouds.size();
    }

    int restore() {
        demand(kept != null, new IllegalStateException());
        now = kept.copy();
        undoable.clear();
        return now.clouds.size();
    }
}
