import java.util.Arrays;
import java.util.NoSuchElementException;

/**
 * A hiring board that interviews clouds for holiday posts.
 *
 * <p>The face below speaks of applicants by their ids; everything inside speaks of them by their positions in ascending
 * order of ids. Every object and row is made by a constructor and used again, so no call makes any but an exception.
 */
public final class CloudInterviews {
    private static final int MOST_APPLICANTS = 10;
    private static final int MOST_POSTS = 6;
    private static final int MOST_WHITENESS = 100;
    private static final int MOST_RAIN = 50;
    private static final int LEAST_WAGE = 1;
    private static final int MOST_WAGE = 99;
    private static final int MOST_DAYS_AT_ONCE = 30;
    private static final int MOST_UNDOS = 8;
    private static final int MOST_INPUT = 60;
    private static final int POINTS_OF_A_REFERENCE = 10;
    private static final int NONE = -1;
    private static final char ANY_SHAPE = '*';

    private final Board board = new Board();
    private final Board before = new Board();
    private final Board saved = new Board();
    private final Board[] history = new Board[MOST_UNDOS];
    private int undoable = 0;
    private boolean hasSaved = false;
    private final Hiring hiring = new Hiring();
    private final StringBuilder output = new StringBuilder();
    private final CommandText input = new CommandText();
    private int keptErrorPosition = NONE;
    private int keptFailedCommand = NONE;

    /** Creates a board without applicants and posts. */
    public CloudInterviews() {
        for (int i = 0; i < MOST_UNDOS; i++) {
            history[i] = new Board();
        }
    }

    // Applicants

    public int addApplicant(char shape, int whiteness, int rain)
            throws IllegalArgumentException, IllegalStateException {
        beginChange();
        finishChange(board.tryAdmit(shape, whiteness, rain));
        return board.applicants.nextId - 1;
    }

    public int removeApplicant(int applicant) throws NoSuchElementException {
        int earned = board.applicants.coins[find(applicant)];
        beginChange();
        finishChange(board.tryLeave(applicant));
        return earned;
    }

    public int rejectRainy(int limit) throws IllegalArgumentException {
        if (!isWithin(limit, 0, MOST_RAIN)) {
            throw new IllegalArgumentException("the limit is not from 0 to 50");
        }
        beginChange();
        int rejected = board.applicants.removeWaitingAbove(limit);
        finishChange(Fault.NO_FAULT);
        return rejected;
    }

    public int applicantCount() {
        return board.applicants.count;
    }

    public int waitingCount() {
        return board.applicants.countWaiting();
    }

    public int applicant(int position) throws IndexOutOfBoundsException {
        if (!isWithin(position, 0, board.applicants.count - 1)) {
            throw new IndexOutOfBoundsException("there is no such position");
        }
        return board.applicants.ids[position];
    }

    public char shape(int applicant) throws NoSuchElementException {
        return board.applicants.shapes[find(applicant)];
    }

    public int whiteness(int applicant) throws NoSuchElementException {
        return board.applicants.whiteness[find(applicant)];
    }

    public int rain(int applicant) throws NoSuchElementException {
        return board.applicants.rain[find(applicant)];
    }

    public int coins(int applicant) throws NoSuchElementException {
        return board.applicants.coins[find(applicant)];
    }

    public boolean isHired(int applicant) throws NoSuchElementException {
        return !board.applicants.isWaiting(find(applicant));
    }

    public int postOf(int applicant) throws NoSuchElementException {
        return board.applicants.posts[findHired(applicant)];
    }

    public int score(int applicant) throws NoSuchElementException {
        return board.applicants.pointsOf(find(applicant));
    }

    public int applicantByScore(int rank) throws IndexOutOfBoundsException {
        int position = board.applicants.positionOfRank(rank);
        if (position == NONE) {
            throw new IndexOutOfBoundsException("there is no such rank");
        }
        return board.applicants.ids[position];
    }

    // References

    public int addReference(int from, int to)
            throws NoSuchElementException, IllegalArgumentException, IllegalStateException {
        beginChange();
        finishChange(board.tryRefer(from, to));
        return board.applicants.countGivers(find(to));
    }

    public int removeReference(int from, int to) throws NoSuchElementException {
        beginChange();
        finishChange(board.tryWithdraw(from, to));
        return board.applicants.countGivers(find(to));
    }

    public boolean hasReference(int from, int to) throws NoSuchElementException {
        int giver = find(from);
        int receiver = find(to);
        return board.applicants.refers(giver, receiver);
    }

    public int referencesFor(int applicant) throws NoSuchElementException {
        return board.applicants.countGivers(find(applicant));
    }

    public int referencesFrom(int applicant) throws NoSuchElementException {
        return board.applicants.countReceivers(find(applicant));
    }

    // Posts

    public int openPost(char shape, int lowestWhiteness, int highestRain, int wage)
            throws IllegalArgumentException, IllegalStateException {
        beginChange();
        finishChange(board.tryOpen(shape, lowestWhiteness, highestRain, wage));
        return board.posts.count - 1;
    }

    public boolean closePost(int post) throws IndexOutOfBoundsException {
        boolean wasFilled = idOfFiller(existing(post)) != NONE;
        beginChange();
        finishChange(board.tryClose(post));
        return wasFilled;
    }

    public int postCount() {
        return board.posts.count;
    }

    public int vacantCount() {
        return Integer.bitCount(board.vacantPosts());
    }

    public char requiredShape(int post) throws IndexOutOfBoundsException {
        return board.posts.shapes[existing(post)];
    }

    public int lowestWhiteness(int post) throws IndexOutOfBoundsException {
        return board.posts.lowestWhiteness[existing(post)];
    }

    public int highestRain(int post) throws IndexOutOfBoundsException {
        return board.posts.highestRain[existing(post)];
    }

    public int wage(int post) throws IndexOutOfBoundsException {
        return board.posts.wages[existing(post)];
    }

    public int filledBy(int post) throws IndexOutOfBoundsException, NoSuchElementException {
        int filler = idOfFiller(existing(post));
        if (filler == NONE) {
            throw new NoSuchElementException("the post is vacant");
        }
        return filler;
    }

    public boolean suits(int applicant, int post) throws NoSuchElementException, IndexOutOfBoundsException {
        int position = find(applicant);
        return board.fits(position, existing(post));
    }

    public int favouritePost(int applicant) throws NoSuchElementException {
        int post = board.favouriteOf(find(applicant));
        if (post == NONE) {
            throw new NoSuchElementException("the applicant suits no post");
        }
        return post;
    }

    public int bestCandidate(int post) throws IndexOutOfBoundsException, NoSuchElementException {
        int position = board.bestWaitingFor(existing(post));
        if (position == NONE) {
            throw new NoSuchElementException("no waiting applicant suits the post");
        }
        return board.applicants.ids[position];
    }

    public int candidateCount(int post) throws IndexOutOfBoundsException {
        return board.countWaitingFor(existing(post));
    }

    // Hiring

    public int hire(int post, int applicant) throws IndexOutOfBoundsException, NoSuchElementException,
            IllegalStateException, UnsupportedOperationException {
        beginChange();
        finishChange(board.tryHire(post, applicant));
        return Integer.bitCount(board.vacantPosts());
    }

    public int hireBest(int post) throws IndexOutOfBoundsException, IllegalStateException, NoSuchElementException {
        if (idOfFiller(existing(post)) != NONE) {
            throw new IllegalStateException("the post is filled");
        }
        int best = bestCandidate(post);
        beginChange();
        finishChange(board.tryHire(post, best));
        return best;
    }

    public int dismiss(int post) throws IndexOutOfBoundsException, IllegalStateException {
        int dismissed = idOfFiller(existing(post));
        if (dismissed == NONE) {
            throw new IllegalStateException("the post is vacant");
        }
        beginChange();
        finishChange(board.tryDismiss(post));
        return dismissed;
    }

    public int match() {
        beginChange();
        int hired = hiring.fillByProposals(board);
        finishChange(Fault.NO_FAULT);
        return hired;
    }

    public int mostHires() {
        return hiring.countByPaths(board);
    }

    public int mostHiresBySets() {
        return hiring.countBySets(board);
    }

    public int blockingPairs() {
        return hiring.countBlockingPairs(board);
    }

    public int blockingPairsByPreference() {
        return hiring.countBlockingPairsInOrder(board);
    }

    // Days, statistics and output

    public int passDays(int days) throws IllegalArgumentException {
        if (!isWithin(days, 1, MOST_DAYS_AT_ONCE)) {
            throw new IllegalArgumentException("the number of days is not from 1 to 30");
        }
        beginChange();
        int dismissals = 0;
        for (int i = 0; i < days; i++) {
            dismissals += board.passOneDay();
        }
        finishChange(Fault.NO_FAULT);
        return dismissals;
    }

    public int day() {
        return board.day;
    }

    public int daysUntilDismissal(int applicant) throws NoSuchElementException {
        int position = findHired(applicant);
        int limit = board.posts.highestRain[board.applicants.posts[position]];
        if (limit >= MOST_RAIN) {
            throw new NoSuchElementException("the applicant will never be dismissed");
        }
        return limit - board.applicants.rain[position] + 1;
    }

    public int dailyWages() {
        return board.sumWages();
    }

    public double meanScore() throws ArithmeticException {
        int count = board.applicants.count;
        if (count == 0) {
            throw new ArithmeticException("there are no applicants");
        }
        return (double) board.applicants.sumPoints() / (double) count;
    }

    public float filledFraction() throws ArithmeticException {
        int count = board.posts.count;
        if (count == 0) {
            throw new ArithmeticException("there are no posts");
        }
        return (float) (count - Integer.bitCount(board.vacantPosts())) / (float) count;
    }

    public int writeApplicant(int applicant) throws NoSuchElementException {
        int position = find(applicant);
        Applicants applicants = board.applicants;
        output.setLength(0);
        output.append(applicants.shapes[position]);
        output.append(applicants.whiteness[position]);
        output.append('/').append(applicants.rain[position]);
        appendIfSome('+', applicants.countGivers(position));
        appendIfSome('$', applicants.coins[position]);
        if (!applicants.isWaiting(position)) {
            output.append('@').append(applicants.posts[position]);
        }
        return output.length();
    }

    public int writePosts() {
        output.setLength(0);
        for (int post = 0; post < board.posts.count; post++) {
            if (post > 0) {
                output.append(' ');
            }
            int filler = idOfFiller(post);
            if (filler == NONE) {
                output.append('-');
            } else {
                output.append(filler);
            }
        }
        return output.length();
    }

    public char outputCharacter(int index) throws IndexOutOfBoundsException {
        if (!isWithin(index, 0, output.length() - 1)) {
            throw new IndexOutOfBoundsException("there is no such character");
        }
        return output.charAt(index);
    }

    public boolean isConsistent() {
        return mostHires() == mostHiresBySets() && blockingPairs() == blockingPairsByPreference()
                && board.allHiredFit();
    }

    // Commands, undo and saved state

    public int feed(char character) throws IllegalStateException {
        if (input.length >= MOST_INPUT) {
            throw new IllegalStateException("the input buffer is full");
        }
        input.append(character);
        return input.length;
    }

    public int execute() throws IllegalArgumentException, UnsupportedOperationException {
        int error = input.findError();
        if (error != NONE) {
            input.clear();
            keptErrorPosition = error;
            throw new IllegalArgumentException("the text is malformed");
        }
        beginChange();
        int failed = runCommands();
        int commands = input.commandCount;
        input.clear();
        if (failed != NONE) {
            board.copyFrom(before);
            keptFailedCommand = failed;
            throw new UnsupportedOperationException("a command fails");
        }
        finishChange(Fault.NO_FAULT);
        return commands;
    }

    public int errorPosition() throws NoSuchElementException {
        if (keptErrorPosition == NONE) {
            throw new NoSuchElementException("no error position was kept");
        }
        return keptErrorPosition;
    }

    public int failedCommand() throws NoSuchElementException {
        if (keptFailedCommand == NONE) {
            throw new NoSuchElementException("no failed command was kept");
        }
        return keptFailedCommand;
    }

    public int undo() throws IllegalStateException {
        if (undoable <= 0) {
            throw new IllegalStateException("there is no change to undo");
        }
        undoable--;
        board.copyFrom(history[undoable]);
        return undoable;
    }

    public int undoCount() {
        return undoable;
    }

    public int save() {
        saved.copyFrom(board);
        hasSaved = true;
        return board.applicants.count;
    }

    public int restore() throws IllegalStateException {
        if (!hasSaved) {
            throw new IllegalStateException("nothing was saved");
        }
        board.copyFrom(saved);
        undoable = 0;
        return board.applicants.count;
    }

    // Helpers of the face

    private int find(int applicant) {
        int position = board.applicants.positionOf(applicant);
        if (position == NONE) {
            throw new NoSuchElementException("there is no such applicant");
        }
        return position;
    }

    private int findHired(int applicant) {
        int position = find(applicant);
        if (board.applicants.isWaiting(position)) {
            throw new NoSuchElementException("the applicant is waiting");
        }
        return position;
    }

    private int existing(int post) {
        if (!board.posts.has(post)) {
            throw new IndexOutOfBoundsException("there is no such post");
        }
        return post;
    }

    /** Returns the id of the applicant by whom a post is filled, or NONE. */
    private int idOfFiller(int post) {
        int position = board.applicants.positionHiredFor(post);
        return position == NONE ? NONE : board.applicants.ids[position];
    }

    private void beginChange() {
        before.copyFrom(board);
    }

    /** Keeps the board from before the change for undo; a change that met a fault is none. */
    private void finishChange(Fault fault) {
        refuse(fault);
        if (undoable >= MOST_UNDOS) {
            forgetOldestChange();
        }
        history[undoable].copyFrom(before);
        undoable++;
    }

    private void forgetOldestChange() {
        Board oldest = history[0];
        for (int i = 1; i < MOST_UNDOS; i++) {
            history[i - 1] = history[i];
        }
        history[MOST_UNDOS - 1] = oldest;
        undoable = MOST_UNDOS - 1;
    }

    private static void refuse(Fault fault) {
        if (fault == Fault.BAD_ARGUMENT) {
            throw new IllegalArgumentException("an argument is not as it must be");
        }
        if (fault == Fault.BAD_STATE) {
            throw new IllegalStateException("the board does not allow it now");
        }
        if (fault == Fault.NOTHING_THERE) {
            throw new NoSuchElementException("there is no such applicant or reference");
        }
        if (fault == Fault.NO_POST) {
            throw new IndexOutOfBoundsException("there is no such post");
        }
        if (fault == Fault.UNSUITED) {
            throw new UnsupportedOperationException("the applicant does not suit the post");
        }
    }

    private void appendIfSome(char sign, int number) {
        if (number > 0) {
            output.append(sign).append(number);
        }
    }

    /** Returns the index of the first command that fails, where it stops, or NONE. */
    private int runCommands() {
        for (int i = 0; i < input.commandCount; i++) {
            CommandKind kind = input.readCommand(i);
            if (kind == null || perform(kind) != Fault.NO_FAULT) {
                return i;
            }
        }
        return NONE;
    }

    private Fault perform(CommandKind kind) {
        int[] numbers = input.numbers;
        switch (kind) {
            case APPLY:
                return board.tryAdmit(input.shape, numbers[0], numbers[1]);
            case LEAVE:
                return board.tryLeave(numbers[0]);
            case POST:
                return board.tryOpen(input.shape, numbers[0], numbers[1], numbers[2]);
            case CLOSE:
                return board.tryClose(numbers[0]);
            case HIRE:
                return board.tryHire(numbers[0], numbers[1]);
            case DISMISS:
                return board.tryDismiss(numbers[0]);
            case REFER:
                return board.tryRefer(numbers[0], numbers[1]);
            case MATCH:
                hiring.fillByProposals(board);
                return Fault.NO_FAULT;
            default:
                board.passOneDay();
                return Fault.NO_FAULT;
        }
    }

    private static boolean isWithin(int number, int least, int most) {
        return number >= least && number <= most;
    }

    private static boolean isShape(char character) {
        return character == 'c' || character == 's' || character == 'n';
    }

    private static boolean isRequiredShape(char character) {
        return character == ANY_SHAPE || isShape(character);
    }

    /** Why a change is refused; each fault but the first stands for one exception of the face. */
    private enum Fault { NO_FAULT, BAD_ARGUMENT, BAD_STATE, NOTHING_THERE, NO_POST, UNSUITED }

    /** The applicants on a board in ascending order of ids; a row's element belongs to the applicant at that position. */
    private static final class Applicants {
        int count = 0;
        int nextId = 0;
        final int[] ids = new int[MOST_APPLICANTS];
        final char[] shapes = new char[MOST_APPLICANTS];
        final int[] whiteness = new int[MOST_APPLICANTS];
        final int[] rain = new int[MOST_APPLICANTS];
        final int[] coins = new int[MOST_APPLICANTS];
        /** The post for which an applicant is hired, or NONE; which post is filled by whom is told here alone. */
        final int[] posts = new int[MOST_APPLICANTS];
        /** Bit g is set if the applicant at position g gave a reference. */
        final int[] givers = new int[MOST_APPLICANTS];

        void copyFrom(Applicants other) {
            count = other.count;
            nextId = other.nextId;
            System.arraycopy(other.ids, 0, ids, 0, MOST_APPLICANTS);
            System.arraycopy(other.shapes, 0, shapes, 0, MOST_APPLICANTS);
            System.arraycopy(other.whiteness, 0, whiteness, 0, MOST_APPLICANTS);
            System.arraycopy(other.rain, 0, rain, 0, MOST_APPLICANTS);
            System.arraycopy(other.coins, 0, coins, 0, MOST_APPLICANTS);
            System.arraycopy(other.posts, 0, posts, 0, MOST_APPLICANTS);
            System.arraycopy(other.givers, 0, givers, 0, MOST_APPLICANTS);
        }

        int positionOf(int id) {
            for (int i = 0; i < count; i++) {
                if (ids[i] == id) {
                    return i;
                }
            }
            return NONE;
        }

        void append(char shape, int white, int wet) {
            if (count >= MOST_APPLICANTS) {
                return;
            }
            ids[count] = nextId;
            shapes[count] = shape;
            whiteness[count] = white;
            rain[count] = wet;
            coins[count] = 0;
            posts[count] = NONE;
            givers[count] = 0;
            count++;
            nextId++;
        }

        void removeAt(int position) {
            if (!isWithin(position, 0, count - 1)) {
                return;
            }
            int from = position + 1;
            int later = count - from;
            System.arraycopy(ids, from, ids, position, later);
            System.arraycopy(shapes, from, shapes, position, later);
            System.arraycopy(whiteness, from, whiteness, position, later);
            System.arraycopy(rain, from, rain, position, later);
            System.arraycopy(coins, from, coins, position, later);
            System.arraycopy(posts, from, posts, position, later);
            System.arraycopy(givers, from, givers, position, later);
            count--;
            forgetGiver(position);
        }

        /** The bits above the position move down with the applicants to whom they belong. */
        private void forgetGiver(int position) {
            int below = (1 << position) - 1;
            for (int i = 0; i < count; i++) {
                givers[i] = givers[i] & below | givers[i] >>> 1 & ~below;
            }
        }

        int removeWaitingAbove(int limit) {
            int removed = 0;
            for (int i = count - 1; i >= 0; i--) {
                if (isWaiting(i) && rain[i] > limit) {
                    removeAt(i);
                    removed++;
                }
            }
            return removed;
        }

        boolean isWaiting(int position) {
            return posts[position] == NONE;
        }

        int countWaiting() {
            int waiting = 0;
            for (int i = 0; i < count; i++) {
                if (posts[i] == NONE) {
                    waiting++;
                }
            }
            return waiting;
        }

        int positionHiredFor(int post) {
            for (int i = 0; i < count; i++) {
                if (posts[i] == post) {
                    return i;
                }
            }
            return NONE;
        }

        void leavePost(int closed) {
            for (int i = 0; i < count; i++) {
                if (posts[i] == closed) {
                    posts[i] = NONE;
                } else if (posts[i] > closed) {
                    posts[i]--;
                }
            }
        }

        boolean refers(int giver, int receiver) {
            return (givers[receiver] >>> giver & 1) == 1;
        }

        int countGivers(int position) {
            return Integer.bitCount(givers[position]);
        }

        int countReceivers(int position) {
            int receivers = 0;
            for (int i = 0; i < count; i++) {
                if (refers(position, i)) {
                    receivers++;
                }
            }
            return receivers;
        }

        int pointsOf(int position) {
            return whiteness[position] - rain[position] + POINTS_OF_A_REFERENCE * Integer.bitCount(givers[position]);
        }

        int sumPoints() {
            int sum = 0;
            for (int i = 0; i < count; i++) {
                sum += pointsOf(i);
            }
            return sum;
        }

        /** Tells whether every post prefers the one to the other; positions are in the order of ids. */
        boolean outranks(int one, int other) {
            int difference = pointsOf(one) - pointsOf(other);
            return difference > 0 || difference == 0 && one < other;
        }

        int positionOfRank(int rank) {
            for (int i = 0; i < count; i++) {
                int better = 0;
                for (int j = 0; j < count; j++) {
                    if (outranks(j, i)) {
                        better++;
                    }
                }
                if (better == rank) {
                    return i;
                }
            }
            return NONE;
        }
    }

    /** The posts of a board; a row's element belongs to the post with that index. */
    private static final class Posts {
        int count = 0;
        final char[] shapes = new char[MOST_POSTS];
        final int[] lowestWhiteness = new int[MOST_POSTS];
        final int[] highestRain = new int[MOST_POSTS];
        final int[] wages = new int[MOST_POSTS];

        void copyFrom(Posts other) {
            count = other.count;
            System.arraycopy(other.shapes, 0, shapes, 0, MOST_POSTS);
            System.arraycopy(other.lowestWhiteness, 0, lowestWhiteness, 0, MOST_POSTS);
            System.arraycopy(other.highestRain, 0, highestRain, 0, MOST_POSTS);
            System.arraycopy(other.wages, 0, wages, 0, MOST_POSTS);
        }

        boolean has(int post) {
            return isWithin(post, 0, count - 1);
        }

        void append(char shape, int lowest, int highest, int pay) {
            if (count >= MOST_POSTS) {
                return;
            }
            shapes[count] = shape;
            lowestWhiteness[count] = lowest;
            highestRain[count] = highest;
            wages[count] = pay;
            count++;
        }

        void removeAt(int post) {
            if (!has(post)) {
                return;
            }
            int from = post + 1;
            int later = count - from;
            System.arraycopy(shapes, from, shapes, post, later);
            System.arraycopy(lowestWhiteness, from, lowestWhiteness, post, later);
            System.arraycopy(highestRain, from, highestRain, post, later);
            System.arraycopy(wages, from, wages, post, later);
            count--;
        }

        /** Tells whether every applicant prefers the one to the other. */
        boolean outranks(int one, int other) {
            return wages[one] > wages[other] || wages[one] == wages[other] && one < other;
        }
    }

    /** Everything that changes can change; a change is made by a try, which changes nothing if it answers a fault. */
    private static final class Board {
        final Applicants applicants = new Applicants();
        final Posts posts = new Posts();
        int day = 0;

        void copyFrom(Board other) {
            applicants.copyFrom(other.applicants);
            posts.copyFrom(other.posts);
            day = other.day;
        }

        Fault tryAdmit(char shape, int whiteness, int rain) {
            if (!isShape(shape) || !isWithin(whiteness, 0, MOST_WHITENESS) || !isWithin(rain, 0, MOST_RAIN)) {
                return Fault.BAD_ARGUMENT;
            }
            if (applicants.count >= MOST_APPLICANTS) {
                return Fault.BAD_STATE;
            }
            applicants.append(shape, whiteness, rain);
            return Fault.NO_FAULT;
        }

        Fault tryLeave(int id) {
            int position = applicants.positionOf(id);
            if (position == NONE) {
                return Fault.NOTHING_THERE;
            }
            applicants.removeAt(position);
            return Fault.NO_FAULT;
        }

        Fault tryRefer(int from, int to) {
            int giver = applicants.positionOf(from);
            int receiver = applicants.positionOf(to);
            if (giver == NONE || receiver == NONE) {
                return Fault.NOTHING_THERE;
            }
            if (giver == receiver) {
                return Fault.BAD_ARGUMENT;
            }
            if (applicants.refers(giver, receiver)) {
                return Fault.BAD_STATE;
            }
            applicants.givers[receiver] |= 1 << giver;
            return Fault.NO_FAULT;
        }

        Fault tryWithdraw(int from, int to) {
            int giver = applicants.positionOf(from);
            int receiver = applicants.positionOf(to);
            if (giver == NONE || receiver == NONE || !applicants.refers(giver, receiver)) {
                return Fault.NOTHING_THERE;
            }
            applicants.givers[receiver] &= ~(1 << giver);
            return Fault.NO_FAULT;
        }

        Fault tryOpen(char shape, int lowest, int highest, int pay) {
            if (!isRequiredShape(shape) || !isWithin(lowest, 0, MOST_WHITENESS) || !isWithin(highest, 0, MOST_RAIN)
                    || !isWithin(pay, LEAST_WAGE, MOST_WAGE)) {
                return Fault.BAD_ARGUMENT;
            }
            if (posts.count >= MOST_POSTS) {
                return Fault.BAD_STATE;
            }
            posts.append(shape, lowest, highest, pay);
            return Fault.NO_FAULT;
        }

        Fault tryClose(int post) {
            if (!posts.has(post)) {
                return Fault.NO_POST;
            }
            posts.removeAt(post);
            applicants.leavePost(post);
            return Fault.NO_FAULT;
        }

        Fault tryHire(int post, int id) {
            if (!posts.has(post)) {
                return Fault.NO_POST;
            }
            int position = applicants.positionOf(id);
            if (position == NONE) {
                return Fault.NOTHING_THERE;
            }
            if (applicants.positionHiredFor(post) != NONE || !applicants.isWaiting(position)) {
                return Fault.BAD_STATE;
            }
            if (!fits(position, post)) {
                return Fault.UNSUITED;
            }
            applicants.posts[position] = post;
            return Fault.NO_FAULT;
        }

        Fault tryDismiss(int post) {
            if (!posts.has(post)) {
                return Fault.NO_POST;
            }
            int position = applicants.positionHiredFor(post);
            if (position == NONE) {
                return Fault.BAD_STATE;
            }
            applicants.posts[position] = NONE;
            return Fault.NO_FAULT;
        }

        /** Returns the number of dismissals. */
        int passOneDay() {
            int dismissals = 0;
            day++;
            for (int i = 0; i < applicants.count; i++) {
                int post = applicants.posts[i];
                if (post == NONE) {
                    continue;
                }
                applicants.coins[i] += posts.wages[post];
                applicants.rain[i] = Math.min(applicants.rain[i] + 1, MOST_RAIN);
                if (!fits(i, post)) {
                    applicants.posts[i] = NONE;
                    dismissals++;
                }
            }
            return dismissals;
        }

        boolean fits(int position, int post) {
            char required = posts.shapes[post];
            return (required == ANY_SHAPE || required == applicants.shapes[position])
                    && applicants.whiteness[position] >= posts.lowestWhiteness[post]
                    && applicants.rain[position] <= posts.highestRain[post];
        }

        boolean allHiredFit() {
            for (int i = 0; i < applicants.count; i++) {
                int post = applicants.posts[i];
                if (post != NONE && !fits(i, post)) {
                    return false;
                }
            }
            return true;
        }

        /** Returns the vacant posts as a set, bit p for the post with index p. */
        int vacantPosts() {
            int vacant = (1 << posts.count) - 1;
            for (int i = 0; i < applicants.count; i++) {
                if (!applicants.isWaiting(i)) {
                    vacant &= ~(1 << applicants.posts[i]);
                }
            }
            return vacant;
        }

        int sumWages() {
            int sum = 0;
            for (int i = 0; i < applicants.count; i++) {
                if (!applicants.isWaiting(i)) {
                    sum += posts.wages[applicants.posts[i]];
                }
            }
            return sum;
        }

        int favouriteOf(int position) {
            int favourite = NONE;
            for (int post = 0; post < posts.count; post++) {
                if (fits(position, post) && (favourite == NONE || posts.outranks(post, favourite))) {
                    favourite = post;
                }
            }
            return favourite;
        }

        int bestWaitingFor(int post) {
            int best = NONE;
            for (int i = 0; i < applicants.count; i++) {
                if (applicants.isWaiting(i) && fits(i, post) && (best == NONE || applicants.outranks(i, best))) {
                    best = i;
                }
            }
            return best;
        }

        int countWaitingFor(int post) {
            int candidates = 0;
            for (int i = 0; i < applicants.count; i++) {
                if (applicants.isWaiting(i) && fits(i, post)) {
                    candidates++;
                }
            }
            return candidates;
        }

        /** Tells whether the post would rather be filled by the applicant than stay as it is. */
        boolean wouldTake(int post, int position) {
            int filler = applicants.positionHiredFor(post);
            return filler == NONE || applicants.outranks(position, filler);
        }
    }

    /** What is computed from all applicants and posts of a board at once; the rows are scratch between calls. */
    private static final class Hiring {
        /** The position of the applicant whose proposal a post holds, or NONE. */
        private final int[] held = new int[MOST_POSTS];
        /** The posts to which an applicant has proposed, as a set. */
        private final int[] proposed = new int[MOST_APPLICANTS];
        /** The post that an augmenting path gives to an applicant, or NONE. */
        private final int[] assigned = new int[MOST_APPLICANTS];
        private final boolean[] tried = new boolean[MOST_APPLICANTS];
        /** Whether the posts of a set can all be filled at the same time. */
        private final boolean[] fillable = new boolean[1 << MOST_POSTS];
        private final int[] preferred = new int[MOST_POSTS];

        /** Makes the stable matching and returns the number of applicants who are hired. */
        int fillByProposals(Board board) {
            Arrays.fill(held, NONE);
            Arrays.fill(proposed, 0);
            int vacant = board.vacantPosts();
            // Nobody proposes twice to a post, so there are no more proposals than pairs.
            for (int turn = 0; turn < MOST_APPLICANTS * MOST_POSTS; turn++) {
                int proposer = nextProposer(board, vacant);
                int post = proposer == NONE ? NONE : nextChoice(board, proposer, vacant);
                if (post == NONE) {
                    break;
                }
                propose(board, proposer, post);
            }
            return hireHeld(board);
        }

        private int nextProposer(Board board, int vacant) {
            for (int i = 0; i < board.applicants.count; i++) {
                if (board.applicants.isWaiting(i) && !isHeld(i) && nextChoice(board, i, vacant) != NONE) {
                    return i;
                }
            }
            return NONE;
        }

        private boolean isHeld(int position) {
            for (int post = 0; post < MOST_POSTS; post++) {
                if (held[post] == position) {
                    return true;
                }
            }
            return false;
        }

        private int nextChoice(Board board, int position, int vacant) {
            int open = vacant & ~proposed[position];
            int choice = NONE;
            for (int post = 0; post < board.posts.count; post++) {
                if ((open >>> post & 1) == 1 && board.fits(position, post)
                        && (choice == NONE || board.posts.outranks(post, choice))) {
                    choice = post;
                }
            }
            return choice;
        }

        private void propose(Board board, int position, int post) {
            proposed[position] |= 1 << post;
            if (held[post] == NONE || board.applicants.outranks(position, held[post])) {
                held[post] = position;
            }
        }

        private int hireHeld(Board board) {
            int hired = 0;
            for (int post = 0; post < MOST_POSTS; post++) {
                if (held[post] != NONE) {
                    board.applicants.posts[held[post]] = post;
                    hired++;
                }
            }
            return hired;
        }

        int countByPaths(Board board) {
            Arrays.fill(assigned, NONE);
            int vacant = board.vacantPosts();
            int filled = 0;
            for (int post = 0; post < board.posts.count; post++) {
                if ((vacant >>> post & 1) == 1) {
                    clear(tried);
                    if (findPath(board, post, assigned, tried, 0)) {
                        filled++;
                    }
                }
            }
            return filled;
        }

        /** Each step of a path goes to another post, so no path is longer than there are posts. */
        private static boolean findPath(Board board, int post, int[] assigned, boolean[] tried, int depth) {
            if (depth >= MOST_POSTS) {
                return false;
            }
            for (int i = 0; i < board.applicants.count; i++) {
                if (tried[i] || !board.applicants.isWaiting(i) || !board.fits(i, post)) {
                    continue;
                }
                tried[i] = true;
                if (assigned[i] == NONE || findPath(board, assigned[i], assigned, tried, depth + 1)) {
                    assigned[i] = post;
                    return true;
                }
            }
            return false;
        }

        int countBySets(Board board) {
            clear(fillable);
            fillable[0] = true;
            int vacant = board.vacantPosts();
            for (int i = 0; i < board.applicants.count; i++) {
                if (board.applicants.isWaiting(i)) {
                    fillSetsWith(board, i, vacant);
                }
            }
            int most = 0;
            for (int set = 0; set < fillable.length; set++) {
                if (fillable[set]) {
                    most = Math.max(most, Integer.bitCount(set));
                }
            }
            return most;
        }

        /** Goes down, so that the smaller sets do not yet count on this applicant. */
        private void fillSetsWith(Board board, int position, int vacant) {
            for (int set = fillable.length - 1; set > 0; set--) {
                for (int post = 0; post < board.posts.count; post++) {
                    int one = 1 << post;
                    if ((set & vacant & one) != 0 && fillable[set & ~one] && board.fits(position, post)) {
                        fillable[set] = true;
                    }
                }
            }
        }

        private static void clear(boolean[] row) {
            for (int i = 0; i < row.length; i++) {
                row[i] = false;
            }
        }

        int countBlockingPairs(Board board) {
            int pairs = 0;
            for (int i = 0; i < board.applicants.count; i++) {
                for (int post = 0; post < board.posts.count; post++) {
                    if (isBlocking(board, i, post)) {
                        pairs++;
                    }
                }
            }
            return pairs;
        }

        private static boolean isBlocking(Board board, int position, int post) {
            int current = board.applicants.posts[position];
            return board.fits(position, post) && current != post
                    && (current == NONE || board.posts.outranks(post, current))
                    && board.wouldTake(post, position);
        }

        int countBlockingPairsInOrder(Board board) {
            orderPosts(board.posts);
            int pairs = 0;
            for (int i = 0; i < board.applicants.count; i++) {
                pairs += countBlockingPostsOf(board, i);
            }
            return pairs;
        }

        /** All applicants have the same order of preference among the posts that they suit. */
        private void orderPosts(Posts posts) {
            for (int post = 0; post < posts.count; post++) {
                int place = post;
                while (place > 0 && posts.outranks(post, preferred[place - 1])) {
                    preferred[place] = preferred[place - 1];
                    place--;
                }
                preferred[place] = post;
            }
        }

        private int countBlockingPostsOf(Board board, int position) {
            int current = board.applicants.posts[position];
            int found = 0;
            for (int i = 0; i < board.posts.count; i++) {
                int post = preferred[i];
                if (post == current) {
                    break;
                }
                if (board.fits(position, post) && board.wouldTake(post, position)) {
                    found++;
                }
            }
            return found;
        }
    }

    /**
     * The forms of the commands. In a form S stands for a shape, R for a required shape, N for a number, D for a digit,
     * and every other sign for itself.
     */
    private enum CommandKind {
        APPLY("apply SN/N"),
        LEAVE("leave N"),
        POST("post RN/N=N"),
        CLOSE("close D"),
        HIRE("hire D<N"),
        DISMISS("dismiss D"),
        REFER("refer N>N"),
        MATCH("match"),
        DAY("day");

        final String form;

        CommandKind(String form) {
            this.form = form;
        }
    }

    /** The input buffer and what is read from it. */
    private static final class CommandText {
        private static final CommandKind[] KINDS = CommandKind.values();
        private static final int MOST_DIGITS = 3;
        private static final int MOST_NUMBERS = 3;
        private static final char SEPARATOR = ';';

        private final char[] characters = new char[MOST_INPUT];
        int length = 0;
        private final int[] starts = new int[MOST_INPUT];
        int commandCount = 0;
        /** The first character that is not read yet. */
        private int next = 0;
        /** The shape and the numbers of the command that was read last. */
        char shape = ANY_SHAPE;
        final int[] numbers = new int[MOST_NUMBERS];
        private int numberCount = 0;

        void append(char character) {
            if (length < MOST_INPUT) {
                characters[length] = character;
                length++;
            }
        }

        void clear() {
            length = 0;
            commandCount = 0;
        }

        /** Finds where the commands start and returns the error position, or NONE if the text is well-formed. */
        int findError() {
            commandCount = 0;
            int start = 0;
            for (int i = 0; i < MOST_INPUT; i++) {
                CommandKind kind = readAt(start);
                if (kind == null) {
                    return next;
                }
                starts[i] = start;
                commandCount = i + 1;
                if (next >= length) {
                    return NONE;
                }
                if (characters[next] != SEPARATOR) {
                    return next;
                }
                start = next + 1;
            }
            return start;
        }

        CommandKind readCommand(int index) {
            return isWithin(index, 0, commandCount - 1) ? readAt(starts[index]) : null;
        }

        /** Reads a command; if there is none, the next character is the first that continues none of the forms. */
        private CommandKind readAt(int start) {
            int farthest = start;
            for (int i = 0; i < KINDS.length; i++) {
                next = start;
                if (readForm(KINDS[i].form)) {
                    return KINDS[i];
                }
                farthest = Math.max(farthest, next);
            }
            next = farthest;
            return null;
        }

        private boolean readForm(String form) {
            numberCount = 0;
            for (int i = 0; i < form.length(); i++) {
                if (!readPart(form.charAt(i))) {
                    return false;
                }
            }
            return true;
        }

        private boolean readPart(char part) {
            if (part == 'N') {
                return readNumber(MOST_DIGITS);
            }
            if (part == 'D') {
                return readNumber(1);
            }
            if (part == 'S' || part == 'R') {
                return readShape(part == 'R');
            }
            return readSign(part);
        }

        private boolean readSign(char sign) {
            if (next >= length || characters[next] != sign) {
                return false;
            }
            next++;
            return true;
        }

        private boolean readShape(boolean orAny) {
            if (next >= length) {
                return false;
            }
            char found = characters[next];
            if (!isShape(found) && !(orAny && found == ANY_SHAPE)) {
                return false;
            }
            shape = found;
            next++;
            return true;
        }

        private boolean readNumber(int mostDigits) {
            int number = 0;
            int digits = 0;
            while (digits < mostDigits && next < length && characters[next] >= '0' && characters[next] <= '9') {
                number = number * 10 + (characters[next] - '0');
                digits++;
                next++;
            }
            if (digits == 0 || numberCount >= MOST_NUMBERS) {
                return false;
            }
            numbers[numberCount] = number;
            numberCount++;
            return true;
        }
    }
}
