import java.util.Arrays;

/** A square that people cross, the pictures taken there, and what can be told by them. */
public final class SquareAlbum {
    public static final int BAD = -1, STATE = -2, FULL = -3, NONE = -9;
    public static final int NO = -1000000;

    private static final int SIDE_LEAST = 3, SIDE_MOST = 12, SIDE_FIRST = 8;
    private static final int CELLS_MOST = SIDE_MOST * SIDE_MOST;
    private static final int PEOPLE_MOST = 8, PICTURES_MOST = 10;
    private static final int TEXT_MOST = 400, FACTS_MOST = 20, SEEN_MOST = 8, IMAGES = 2;
    private static final int WAYS = 4, REACH_MOST = 9, MARK_MOST = 9;
    private static final int TOLD_SECOND_MOST = 99, SECOND_MOST = 199;
    private static final int WAIT_MOST = 99, WAIT_OF_NONE = 100;
    private static final int CLOCKS = 4, AHEAD_MOST = 20;
    private static final int HAS_NOT = 0, HAS = 1, NOTHING_TOLD = 2;
    private static final int NEAR_MOST = 11, RULE_MOST = 10;

    /** What a person's and a picture's row hold, and where. */
    private static final int X = 0, Y = 1, WAY = 2;
    private static final int COMES = 3, STAYS = 4, PERSON_ROW = 6;
    private static final int REACH = 3, SECOND = 4, PICTURE_ROW = 5;

    /** What can be said of one in a view. */
    private static final int NOT_IN_VIEW = 0, SHOWN = 1, BEHIND_WALL = 2, BEHIND_PEOPLE = 3;

    /** One step by each way; the last way is to stay. */
    private static final int[] STEP_X = {1, 0, -1, 0, 0};
    private static final int[] STEP_Y = {0, 1, 0, -1, 0};

    private static final int POSED = 1, CROSSED = 2, WAITED_FOR = 3, COPIED = 4, CLOCKED = 5;

    /** Items of a text. */
    private static final int SQUARE = 0, WALL = 1, PERSON = 2, PICTURE = 3, ITEM_ROW = 6;

    private final TextReader reader;
    private final Notes notes;
    private final Notes[] images;
    private final boolean[] kept;
    private final ClockSetter clocks;
    private Scene scene;
    private Scene spare;
    private long traced;

    public SquareAlbum() {
        reader = new TextReader();
        notes = new Notes();
        images = new Notes[IMAGES];
        for (int k = 0; k < IMAGES; k++) {
            images[k] = new Notes();
        }
        kept = new boolean[IMAGES];
        clocks = new ClockSetter();
        scene = new Scene();
        spare = new Scene();
        traced = 0;
    }

    // ---- the square

    public int type(long v, int n) {
        if (!isBetween(n, 1, 8)) {
            return BAD;
        }
        if (reader.length + n > TEXT_MOST) {
            return FULL;
        }
        return reader.append(v, n);
    }

    public int clear() {
        int had = reader.length;
        reader.length = 0;
        return had;
    }

    public int square() {
        int items = reader.readInto(spare);
        if (items < 0) {
            return items;
        }
        spare.showAll(REACH_MOST, spare.shown);
        Scene before = scene;
        scene = spare;
        spare = before;
        reader.length = 0;
        notes.tellNothingOfHat();
        for (int k = 0; k < IMAGES; k++) {
            kept[k] = false;
        }
        return items;
    }

    public int wall(int x, int y) {
        if (!scene.isCell(x, y)) {
            return BAD;
        }
        return scene.isWall(x, y) ? 1 : 0;
    }

    public int person(int p, int what) {
        if (!scene.isPerson(p) || !isBetween(what, 0, PERSON_ROW - 1)) {
            return BAD;
        }
        return scene.ofPerson(p, what);
    }

    public int picture(int i, int what) {
        if (!scene.isPicture(i) || !isBetween(what, 0, PICTURE_ROW - 1)) {
            return BAD;
        }
        return scene.ofPicture(i, what);
    }

    // ---- who is where, in whose picture

    public int where(int p, int t) {
        if (!scene.isPerson(p) || !isBetween(t, 0, SECOND_MOST)) {
            return BAD;
        }
        return scene.cellOf(p, t);
    }

    public int on(int x, int y, int t) {
        if (!scene.isCell(x, y) || !isBetween(t, 0, SECOND_MOST)) {
            return BAD;
        }
        return scene.peopleOn(x, y, t);
    }

    public int shows(int i) {
        if (!scene.isPicture(i)) {
            return BAD;
        }
        return scene.shown[i];
    }

    public int view(int x, int y, int way, int reach, int t) {
        if (!scene.isCell(x, y) || !isBetween(way, 0, WAYS - 1)) {
            return BAD;
        }
        if (!isBetween(reach, 1, REACH_MOST) || !isBetween(t, 0, SECOND_MOST)) {
            return BAD;
        }
        return scene.shownFrom(x, y, way, reach, t);
    }

    public int hidden(int i, int p) {
        if (!scene.isPicture(i) || !scene.isPerson(p)) {
            return BAD;
        }
        return scene.stateInPicture(i, p);
    }

    public int from(int set, int reach, int t, int what) {
        if (!scene.isSetOfPeople(set) || !isBetween(reach, 1, REACH_MOST)) {
            return BAD;
        }
        if (!isBetween(t, 0, SECOND_MOST) || !isBetween(what, 0, 1)) {
            return BAD;
        }
        return what == 0 ? scene.countPlacesOf(set, reach, t) : scene.firstPlaceOf(set, reach, t);
    }

    // ---- clocks, sightings, all

    public int fact(int a, int u, int b, int v) {
        if (!isBetween(a, 0, CLOCKS - 1) || !isBetween(b, 0, CLOCKS - 1) || a == b) {
            return BAD;
        }
        if (!isBetween(u, 0, TOLD_SECOND_MOST) || !isBetween(v, 0, TOLD_SECOND_MOST)) {
            return BAD;
        }
        if (notes.factCount >= FACTS_MOST) {
            return FULL;
        }
        return notes.addFact(a, u, b, v);
    }

    public int right(int what) {
        if (!isBetween(what, 0, CLOCKS - 1)) {
            return NO;
        }
        clocks.putRight(notes);
        return what == 0 ? clocks.outliers : clocks.ahead[what];
    }

    public int seen(int x, int y, int t, int mark) {
        if (!scene.isCell(x, y)) {
            return BAD;
        }
        if (!isBetween(t, 0, TOLD_SECOND_MOST) || !isBetween(mark, 0, MARK_MOST)) {
            return BAD;
        }
        if (notes.seenCount >= SEEN_MOST) {
            return FULL;
        }
        return notes.addSeen(x, y, t, mark);
    }

    public int joined() {
        return notes.fewestPeople();
    }

    public int forget() {
        int were = notes.factCount + notes.seenCount;
        notes.factCount = 0;
        notes.seenCount = 0;
        return were;
    }

    public int all(int i, int j, int what) {
        if (!scene.isPicture(i) || !scene.isPicture(j) || i == j || !isBetween(what, 0, 1)) {
            return BAD;
        }
        int one = scene.shown[i];
        int other = scene.shown[j];
        int both = Integer.bitCount(one & other);
        if (both == 0) {
            return STATE;
        }
        int product = Integer.bitCount(one) * Integer.bitCount(other);
        int shared = greatestDivisor(product, both);
        return (what == 0 ? product : both) / shared;
    }

    // ---- a hat, an empty square

    public int has(int i, int is) {
        if (!scene.isPicture(i) || !isBetween(is, HAS_NOT, NOTHING_TOLD)) {
            return BAD;
        }
        int told = notes.hat[i];
        notes.hat[i] = is;
        return told;
    }

    public int hat(int what) {
        if (!isBetween(what, 0, 1)) {
            return BAD;
        }
        return what == 0 ? lastWithHat() : firstWithoutHat();
    }

    public int near(int x, int y, int r) {
        if (!scene.isCell(x, y) || !isBetween(r, 0, NEAR_MOST)) {
            return BAD;
        }
        int with = lastWithHat();
        int without = firstWithoutHat();
        if (with == NONE || without == NONE) {
            return STATE;
        }
        int people = 0;
        for (int t = with; t <= without; t++) {
            people |= scene.peopleNear(x, y, r, t);
        }
        return people;
    }

    public int empty(int i, int what) {
        if (!scene.isPicture(i) || !isBetween(what, 0, 1)) {
            return BAD;
        }
        return what == 0 ? scene.fewestForEmpty(i) : scene.countNeverEmpty(i);
    }

    // ---- waits, what can be told

    public int waits(int i) {
        if (!scene.isPicture(i)) {
            return BAD;
        }
        return scene.waitOf(i);
    }

    public int lost() {
        int sum = 0;
        for (int i = 0; i < scene.pictureCount; i++) {
            int wait = scene.waitOf(i);
            if (wait != NONE) {
                sum += wait;
            }
        }
        return sum;
    }

    public int told(int p, int what) {
        if (!scene.isPerson(p) || !isBetween(what, 0, 3)) {
            return BAD;
        }
        switch (what) {
            case 0:
                return countShowing(scene.shown, scene.pictureCount, 1 << p);
            case 1:
                return scene.mostOftenWith(p);
            case 2:
                return scene.firstSecondOf(p);
            default:
                return scene.lastSecondOf(p);
        }
    }

    public int rule(int k) {
        if (!isBetween(k, 0, RULE_MOST)) {
            return BAD;
        }
        int ahead = REACH_MOST;
        while (ahead > 0 && scene.mostPicturesOfOne(ahead) > k) {
            ahead--;
        }
        return ahead;
    }

    public int untrue(int i, int set) {
        if (!scene.isPicture(i) || !scene.isSetOfPeople(set)) {
            return BAD;
        }
        return Integer.bitCount(scene.shown[i] ^ set);
    }

    // ---- kinds, images

    public int rate(int kind, int i) {
        if (!isBetween(kind, 0, CLOCKED) || !scene.isPicture(i)) {
            return NO;
        }
        switch (kind) {
            case POSED:
                return ratePosed(i);
            case CROSSED:
                return rateCrossed(i);
            case WAITED_FOR:
                return rateWaitedFor(i);
            case COPIED:
                return rateCopied(i);
            case CLOCKED:
                return rateClocked(i);
            default:
                return ratePicture(i);
        }
    }

    public int keep(int image) {
        if (!isBetween(image, 0, IMAGES - 1)) {
            return BAD;
        }
        images[image].become(notes);
        kept[image] = true;
        return notes.factCount;
    }

    public int back(int image) {
        if (!isBetween(image, 0, IMAGES - 1)) {
            return BAD;
        }
        if (!kept[image]) {
            return STATE;
        }
        notes.become(images[image]);
        return notes.factCount;
    }

    public int count(int what) {
        switch (what) {
            case 0:
                return scene.personCount;
            case 1:
                return scene.pictureCount;
            case 2:
                return scene.wallCount;
            case 3:
                return notes.factCount;
            case 4:
                return notes.seenCount;
            case 5:
                return reader.length;
            case 6:
                return scene.wide;
            case 7:
                return scene.high;
            default:
                return BAD;
        }
    }

    public long trace() {
        return traced;
    }

    private static boolean isBetween(int number, int least, int most) {
        return number >= least && number <= most;
    }

    /** In how many of the first pictures of a row all of a set are. */
    private static int countShowing(int[] row, int pictures, int set) {
        int found = 0;
        for (int i = 0; i < pictures; i++) {
            if ((row[i] & set) == set) {
                found++;
            }
        }
        return found;
    }

    /** Of two numbers above 0; the least answer is 1, so it may divide. */
    private static int greatestDivisor(int a, int b) {
        int divisor = Math.min(a, b);
        while (divisor > 1 && (a % divisor != 0 || b % divisor != 0)) {
            divisor--;
        }
        return Math.max(divisor, 1);
    }

    private int lastWithHat() {
        int last = NONE;
        for (int i = 0; i < scene.pictureCount; i++) {
            if (notes.hat[i] == HAS) {
                last = Math.max(last, scene.ofPicture(i, SECOND));
            }
        }
        return last;
    }

    private int firstWithoutHat() {
        // NONE is below every second, so without a WITH all seconds are above it.
        int with = lastWithHat();
        int first = NONE;
        for (int i = 0; i < scene.pictureCount; i++) {
            int second = scene.ofPicture(i, SECOND);
            if (notes.hat[i] == HAS_NOT && second > with && (first == NONE || second < first)) {
                first = second;
            }
        }
        return first;
    }

    // Each kind asks the body of the kind above it, so that the trace counts both.

    private int ratePicture(int i) {
        traced += 1;
        return Integer.bitCount(scene.shown[i]);
    }

    private int ratePosed(int i) {
        traced += 10;
        return ratePicture(i) + scene.ofPicture(i, REACH);
    }

    private int rateCrossed(int i) {
        traced += 100;
        return ratePicture(i) * 3;
    }

    private int rateWaitedFor(int i) {
        traced += 1000;
        int wait = scene.waitOf(i);
        return rateCrossed(i) + (wait == NONE ? WAIT_OF_NONE : wait);
    }

    private int rateCopied(int i) {
        traced += 10000;
        return ratePosed(i) * 2;
    }

    private int rateClocked(int i) {
        traced += 100000;
        return ratePicture(i) - scene.ofPicture(i, SECOND);
    }

    /** All that a text tells: the square, its walls, people and pictures. */
    private static final class Scene {
        private final boolean[] walls = new boolean[CELLS_MOST];
        private final int[] people = new int[PEOPLE_MOST * PERSON_ROW];
        private final int[] pictures = new int[PICTURES_MOST * PICTURE_ROW];
        private int wide = SIDE_FIRST;
        private int high = SIDE_FIRST;
        private int wallCount = 0;
        private int personCount = 0;
        private int pictureCount = 0;

        /** Who stands where at one second: views of one second ask for it again and again. */
        private final int[] cells = new int[PEOPLE_MOST];
        private final int[] crowd = new int[CELLS_MOST];
        private int standing = NONE;

        /** Whom each picture shows: found once, when all is told. */
        private final int[] shown = new int[PICTURES_MOST];

        /** Whom each picture shows near it, and which cells it has empty: rows that calls use again. */
        private final int[] shownNear = new int[PICTURES_MOST];
        private final long[] empties = new long[PICTURES_MOST];

        void beginAnew() {
            for (int cell = 0; cell < CELLS_MOST; cell++) {
                walls[cell] = false;
            }
            wide = SIDE_FIRST;
            high = SIDE_FIRST;
            wallCount = 0;
            personCount = 0;
            pictureCount = 0;
            standing = NONE;
        }

        boolean hasRoomFor(int item) {
            return (item != PERSON || personCount < PEOPLE_MOST) && (item != PICTURE || pictureCount < PICTURES_MOST);
        }

        void addItem(int item, int[] numbers) {
            if (!hasRoomFor(item)) {
                return;
            }
            switch (item) {
                case SQUARE:
                    wide = numbers[0];
                    high = numbers[1];
                    break;
                case WALL:
                    addWall(numbers[X], numbers[Y]);
                    break;
                case PERSON:
                    System.arraycopy(numbers, 0, people, PERSON_ROW * personCount, PERSON_ROW);
                    personCount++;
                    break;
                default:
                    System.arraycopy(numbers, 0, pictures, PICTURE_ROW * pictureCount, PICTURE_ROW);
                    pictureCount++;
                    break;
            }
        }

        private void addWall(int x, int y) {
            if (isCell(x, y) && !walls[wide * y + x]) {
                walls[wide * y + x] = true;
                wallCount++;
            }
        }

        boolean isCell(int x, int y) {
            return x >= 0 && x < wide && y >= 0 && y < high;
        }

        boolean isWall(int x, int y) {
            return isCell(x, y) && walls[wide * y + x];
        }

        private boolean isGround(int x, int y) {
            return isCell(x, y) && !walls[wide * y + x];
        }

        boolean isPerson(int p) {
            return isBetween(p, 0, personCount - 1);
        }

        boolean isPicture(int i) {
            return isBetween(i, 0, pictureCount - 1);
        }

        boolean isSetOfPeople(int set) {
            return isBetween(set, 0, (1 << personCount) - 1);
        }

        int ofPerson(int p, int what) {
            return people[PERSON_ROW * p + what];
        }

        int ofPicture(int i, int what) {
            return pictures[PICTURE_ROW * i + what];
        }

        int cellOf(int p, int t) {
            int gone = t - ofPerson(p, COMES);
            if (!isBetween(gone, 0, ofPerson(p, STAYS))) {
                return NONE;
            }
            int way = ofPerson(p, WAY);
            int x = ofPerson(p, X) + gone * STEP_X[way];
            int y = ofPerson(p, Y) + gone * STEP_Y[way];
            return isCell(x, y) && !walls[wide * y + x] ? wide * y + x : NONE;
        }

        private void standAt(int t) {
            if (t == standing) {
                return;
            }
            Arrays.fill(crowd, 0);
            for (int p = 0; p < personCount; p++) {
                cells[p] = cellOf(p, t);
                if (cells[p] >= 0) {
                    crowd[cells[p]] |= 1 << p;
                }
            }
            standing = t;
        }

        int peopleOn(int x, int y, int t) {
            standAt(t);
            return isCell(x, y) ? crowd[wide * y + x] : 0;
        }

        int peopleNear(int x, int y, int r, int t) {
            int found = 0;
            for (int row = Math.max(0, y - r); row <= Math.min(high - 1, y + r); row++) {
                for (int column = Math.max(0, x - r); column <= Math.min(wide - 1, x + r); column++) {
                    found |= peopleOn(column, row, t);
                }
            }
            return found;
        }

        /** How far right of a cell one is, that many ahead by a way and that many to the side. */
        private static int goneX(int way, int ahead, int side) {
            return ahead * STEP_X[way] + side * STEP_X[(way + 1) % WAYS];
        }

        private static int goneY(int way, int ahead, int side) {
            return ahead * STEP_Y[way] + side * STEP_Y[(way + 1) % WAYS];
        }

        /** SHOWN, or what is first in the way to a cell of a view; people are where they stand. */
        private int stateOfCell(int x, int y, int way, int ahead, int side) {
            if (ahead < 1) {
                return NOT_IN_VIEW;
            }
            for (int k = 1; k < ahead; k++) {
                int aside = side * k / ahead;
                int betweenX = x + goneX(way, k, aside);
                int betweenY = y + goneY(way, k, aside);
                if (!isCell(betweenX, betweenY)) {
                    continue;
                }
                int between = wide * betweenY + betweenX;
                if (walls[between]) {
                    return BEHIND_WALL;
                }
                if (crowd[between] != 0) {
                    return BEHIND_PEOPLE;
                }
            }
            return SHOWN;
        }

        private int stateOf(int p, int x, int y, int way, int reach) {
            int cell = cells[p];
            if (cell < 0 || wide < 1) {
                return NOT_IN_VIEW;
            }
            int apartX = cell % wide - x;
            int apartY = cell / wide - y;
            int ahead = apartX * STEP_X[way] + apartY * STEP_Y[way];
            int next = (way + 1) % WAYS;
            int side = apartX * STEP_X[next] + apartY * STEP_Y[next];
            if (ahead < 1 || ahead > reach || Math.abs(side) > ahead / 2) {
                return NOT_IN_VIEW;
            }
            return stateOfCell(x, y, way, ahead, side);
        }

        int shownFrom(int x, int y, int way, int reach, int t) {
            standAt(t);
            int found = 0;
            for (int p = 0; p < personCount; p++) {
                if (stateOf(p, x, y, way, reach) == SHOWN) {
                    found |= 1 << p;
                }
            }
            return found;
        }

        /** Fills a row with whom each picture shows, if faces are shown to so many ahead only. */
        void showAll(int most, int[] row) {
            for (int i = 0; i < pictureCount; i++) {
                int reach = Math.min(most, ofPicture(i, REACH));
                row[i] = shownFrom(ofPicture(i, X), ofPicture(i, Y), ofPicture(i, WAY), reach, ofPicture(i, SECOND));
            }
        }

        int stateInPicture(int i, int p) {
            standAt(ofPicture(i, SECOND));
            return stateOf(p, ofPicture(i, X), ofPicture(i, Y), ofPicture(i, WAY), ofPicture(i, REACH));
        }

        /** Whether a place (4 times the cell, and the way) is one that a set can have been shown from. */
        private boolean isPlaceOf(int place, int set, int reach, int t) {
            int cell = place / WAYS;
            if (wide < 1 || walls[cell]) {
                return false;
            }
            return shownFrom(cell % wide, cell / wide, place % WAYS, reach, t) == set;
        }

        int countPlacesOf(int set, int reach, int t) {
            int found = 0;
            for (int place = 0; place < WAYS * wide * high; place++) {
                if (isPlaceOf(place, set, reach, t)) {
                    found++;
                }
            }
            return found;
        }

        int firstPlaceOf(int set, int reach, int t) {
            for (int place = 0; place < WAYS * wide * high; place++) {
                if (isPlaceOf(place, set, reach, t)) {
                    return place;
                }
            }
            return NONE;
        }

        /**
         * Cells of a picture's view on the square that are no wall, as bits by their turn in the view: all of them, or
         * only those that it has not hidden and without people.
         */
        private long groundOf(int i, boolean mustBeEmpty) {
            int x = ofPicture(i, X);
            int y = ofPicture(i, Y);
            int way = ofPicture(i, WAY);
            long ground = 0;
            int turn = 0;
            standAt(ofPicture(i, SECOND));
            for (int ahead = 1; ahead <= ofPicture(i, REACH); ahead++) {
                for (int side = -(ahead / 2); side <= ahead / 2; side++) {
                    int cellX = x + goneX(way, ahead, side);
                    int cellY = y + goneY(way, ahead, side);
                    boolean isEmpty = isEmptyGround(cellX, cellY) && stateOfCell(x, y, way, ahead, side) == SHOWN;
                    if (mustBeEmpty ? isEmpty : isGround(cellX, cellY)) {
                        ground |= 1L << turn;
                    }
                    turn++;
                }
            }
            return ground;
        }

        private boolean isEmptyGround(int x, int y) {
            return isGround(x, y) && crowd[wide * y + x] == 0;
        }

        private boolean haveOneView(int i, int j) {
            for (int what = X; what <= REACH; what++) {
                if (ofPicture(i, what) != ofPicture(j, what)) {
                    return false;
                }
            }
            return true;
        }

        /** Fills the rows of empty cells; answers the pictures with the view of one, as bits. */
        private int findEmpties(int i) {
            int alike = 0;
            for (int j = 0; j < pictureCount; j++) {
                if (haveOneView(i, j)) {
                    alike |= 1 << j;
                    empties[j] = groundOf(j, true);
                }
            }
            return alike;
        }

        private long emptyInSomeOf(int set) {
            long found = 0;
            for (int j = 0; j < pictureCount; j++) {
                if ((set >> j & 1) != 0) {
                    found |= empties[j];
                }
            }
            return found;
        }

        int fewestForEmpty(int i) {
            int alike = findEmpties(i);
            long ground = groundOf(i, false);
            int best = NONE;
            for (int set = 0; set <= alike; set++) {
                boolean isOfAlike = (set & ~alike) == 0;
                boolean isFewer = best == NONE || Integer.bitCount(set) < Integer.bitCount(best);
                if (isOfAlike && isFewer && (ground & ~emptyInSomeOf(set)) == 0) {
                    best = set;
                }
            }
            return best;
        }

        int countNeverEmpty(int i) {
            int alike = findEmpties(i);
            return Long.bitCount(groundOf(i, false) & ~emptyInSomeOf(alike));
        }

        int waitOf(int i) {
            int x = ofPicture(i, X);
            int y = ofPicture(i, Y);
            int way = ofPicture(i, WAY);
            for (int later = 0; later <= WAIT_MOST; later++) {
                if (shownFrom(x, y, way, ofPicture(i, REACH), ofPicture(i, SECOND) + later) == 0) {
                    return later;
                }
            }
            return NONE;
        }

        int mostOftenWith(int p) {
            int most = 0;
            int found = NONE;
            for (int other = 0; other < personCount; other++) {
                int together = countShowing(shown, pictureCount, 1 << p | 1 << other);
                if (other != p && together > most) {
                    most = together;
                    found = other;
                }
            }
            return found;
        }

        int firstSecondOf(int p) {
            int first = NONE;
            for (int i = 0; i < pictureCount; i++) {
                int second = ofPicture(i, SECOND);
                if ((shown[i] >> p & 1) != 0 && (first == NONE || second < first)) {
                    first = second;
                }
            }
            return first;
        }

        int lastSecondOf(int p) {
            int last = NONE;
            for (int i = 0; i < pictureCount; i++) {
                if ((shown[i] >> p & 1) != 0) {
                    last = Math.max(last, ofPicture(i, SECOND));
                }
            }
            return last;
        }

        int mostPicturesOfOne(int ahead) {
            showAll(ahead, shownNear);
            int most = 0;
            for (int p = 0; p < personCount; p++) {
                most = Math.max(most, countShowing(shownNear, pictureCount, 1 << p));
            }
            return most;
        }
    }

    /** The text, and how it is read into a scene, token by token. */
    private static final class TextReader {
        /** Tokens that are no word; a word's token is its item. */
        private static final int END = 10, SEMICOLON = 11, NUMBER = 12, WRONG = 13;

        /** The words' letters, the last in the lowest byte; so no longer word is like one of them. */
        private static final long SQUARE_WORD = 0x737175617265L, WALL_WORD = 0x77616c6cL;
        private static final long PERSON_WORD = 0x706572736f6eL, PICTURE_WORD = 0x70696374757265L;

        /** How many numbers an item has, and what they may be, a row for each; BY_SIDE: as the square has cells. */
        private static final int BY_SIDE = -1, NUMBER_MOST = 99, FAULT_BASE = -10;
        private static final int[] NUMBERS_OF = {2, 2, 6, 5};
        private static final int[] LEAST = {
            SIDE_LEAST, SIDE_LEAST, 0, 0, 0, 0,
            0, 0, 0, 0, 0, 0,
            0, 0, 0, 0, 0, 0,
            0, 0, 0, 1, 0, 0};
        private static final int[] MOST = {
            SIDE_MOST, SIDE_MOST, 0, 0, 0, 0,
            BY_SIDE, BY_SIDE, 0, 0, 0, 0,
            BY_SIDE, BY_SIDE, WAYS, TOLD_SECOND_MOST, TOLD_SECOND_MOST, MARK_MOST,
            BY_SIDE, BY_SIDE, WAYS - 1, REACH_MOST, TOLD_SECOND_MOST, 0};

        private final byte[] bytes = new byte[TEXT_MOST];
        private final int[] numbers = new int[ITEM_ROW];
        private int length = 0;
        private int place = 0;

        /** The token that was read last: what it is, where it begins, its number. */
        private int token = END;
        private int start = 0;
        private int number = 0;

        int append(long v, int n) {
            for (int k = n - 1; k >= 0 && length < TEXT_MOST; k--) {
                bytes[length] = (byte) (v >> 8 * k);
                length++;
            }
            return length;
        }

        /** How many items there are, or -10 less the fault's place: then the scene is of no use. */
        int readInto(Scene told) {
            told.beginAnew();
            place = 0;
            for (int items = 0; items <= TEXT_MOST; items++) {
                nextToken();
                if (token == END) {
                    return items;
                }
                if (!readItem(told, items == 0)) {
                    return FAULT_BASE - start;
                }
            }
            return FAULT_BASE - start;
        }

        private boolean readItem(Scene told, boolean isFirst) {
            int item = token;
            if (!isBetween(item, SQUARE, PICTURE) || !told.hasRoomFor(item) || item == SQUARE && !isFirst) {
                return false;
            }
            for (int k = 0; k < NUMBERS_OF[item]; k++) {
                int most = MOST[ITEM_ROW * item + k];
                if (most == BY_SIDE) {
                    most = (k == X ? told.wide : told.high) - 1;
                }
                if (!readNumber(LEAST[ITEM_ROW * item + k], most)) {
                    return false;
                }
                numbers[k] = number;
            }
            nextToken();
            if (token != SEMICOLON) {
                return false;
            }
            told.addItem(item, numbers);
            return true;
        }

        private boolean readNumber(int least, int most) {
            nextToken();
            return token == NUMBER && isBetween(number, least, most);
        }

        /** At the end of the text the token begins at the text's length, which is the fault then. */
        private void nextToken() {
            while (place < length && bytes[place] == ' ') {
                place++;
            }
            start = place;
            if (place >= length) {
                token = END;
            } else if (bytes[place] == ';') {
                token = SEMICOLON;
                place++;
            } else if (isBetween(bytes[place], '0', '9')) {
                takeNumber();
            } else if (isBetween(bytes[place], 'a', 'z')) {
                takeWord();
            } else {
                token = WRONG;
            }
        }

        private void takeNumber() {
            number = 0;
            while (place < length && isBetween(bytes[place], '0', '9')) {
                // One above the most is enough to know: a long number must not run over.
                number = Math.min(10 * number + bytes[place] - '0', NUMBER_MOST + 1);
                place++;
            }
            boolean hasZeroAhead = place - start > 1 && bytes[start] == '0';
            token = number > NUMBER_MOST || hasZeroAhead ? WRONG : NUMBER;
        }

        private void takeWord() {
            long word = 0;
            while (place < length && isBetween(bytes[place], 'a', 'z')) {
                word = word << 8 | bytes[place];
                place++;
            }
            if (word == SQUARE_WORD) {
                token = SQUARE;
            } else if (word == WALL_WORD) {
                token = WALL;
            } else if (word == PERSON_WORD) {
                token = PERSON;
            } else if (word == PICTURE_WORD) {
                token = PICTURE;
            } else {
                token = WRONG;
            }
        }
    }

    /** What images keep: facts, those seen, and what is told of the hat. */
    private static final class Notes {
        private static final int FACT_ROW = 4, SEEN_ROW = 4;
        private static final int SEEN_AT = 2, MARK = 3;

        private final int[] facts = new int[FACTS_MOST * FACT_ROW];
        private final int[] sightings = new int[SEEN_MOST * SEEN_ROW];
        private final int[] hat = new int[PICTURES_MOST];
        private final int[] joinable = new int[SEEN_MOST];
        private int factCount = 0;
        private int seenCount = 0;

        Notes() {
            Arrays.fill(hat, NOTHING_TOLD);
        }

        void tellNothingOfHat() {
            Arrays.fill(hat, NOTHING_TOLD);
        }

        void become(Notes other) {
            System.arraycopy(other.facts, 0, facts, 0, facts.length);
            System.arraycopy(other.sightings, 0, sightings, 0, sightings.length);
            System.arraycopy(other.hat, 0, hat, 0, hat.length);
            factCount = other.factCount;
            seenCount = other.seenCount;
        }

        int addFact(int a, int u, int b, int v) {
            if (factCount < FACTS_MOST) {
                putRow(facts, FACT_ROW * factCount, a, u, b, v);
                factCount++;
            }
            return factCount;
        }

        int addSeen(int x, int y, int t, int mark) {
            if (seenCount < SEEN_MOST) {
                putRow(sightings, SEEN_ROW * seenCount, x, y, t, mark);
                seenCount++;
            }
            return seenCount;
        }

        private static void putRow(int[] rows, int at, int first, int second, int third, int fourth) {
            rows[at] = first;
            rows[at + 1] = second;
            rows[at + 2] = third;
            rows[at + 3] = fourth;
        }

        int ofFact(int f, int what) {
            return facts[FACT_ROW * f + what];
        }

        private int ofSeen(int s, int what) {
            return sightings[SEEN_ROW * s + what];
        }

        /** At one second only cells 0 apart pass, and then all is alike. */
        private boolean canBeOne(int s, int other) {
            int apart = Math.abs(ofSeen(s, X) - ofSeen(other, X)) + Math.abs(ofSeen(s, Y) - ofSeen(other, Y));
            int seconds = Math.abs(ofSeen(s, SEEN_AT) - ofSeen(other, SEEN_AT));
            return ofSeen(s, MARK) == ofSeen(other, MARK) && apart <= seconds;
        }

        private void findJoinable() {
            for (int s = 0; s < seenCount; s++) {
                joinable[s] = 0;
                for (int other = 0; other < seenCount; other++) {
                    if (other != s && canBeOne(s, other)) {
                        joinable[s] |= 1 << other;
                    }
                }
            }
        }

        private boolean areAllUnlike(int set) {
            for (int s = 0; s < seenCount; s++) {
                if ((set >> s & 1) != 0 && (joinable[s] & set) != 0) {
                    return false;
                }
            }
            return true;
        }

        /**
         * Who can get from a first to a second and on to a third can get from the first to the third. So the
         * sightings are an order, and its fewest chains are as many as the most of which no two can be one.
         */
        int fewestPeople() {
            findJoinable();
            int most = 0;
            for (int set = 0; set < 1 << seenCount; set++) {
                if (Integer.bitCount(set) > most && areAllUnlike(set)) {
                    most = Integer.bitCount(set);
                }
            }
            return most;
        }
    }

    /** Finds how far the clocks are ahead of clock 0. */
    private static final class ClockSetter {
        private static final int A = 0, U = 1, B = 2, V = 3;
        private static final int APART_MOST = 2 * AHEAD_MOST, TALLIES = 2 * APART_MOST + 1;

        /** Facts by two clocks (the lesser first) and how far the second is ahead of the first. */
        private final int[] tallies = new int[2 * CLOCKS * TALLIES];
        private final int[] ahead = new int[CLOCKS];
        private int ofLastClock = 0;
        private int held = 0;
        private int outliers = 0;

        void putRight(Notes notes) {
            countFacts(notes);
            held = -1;
            for (int one = -AHEAD_MOST; one <= AHEAD_MOST; one++) {
                for (int two = -AHEAD_MOST; two <= AHEAD_MOST; two++) {
                    int sure = tally(0, 1, one) + tally(0, 2, two) + tally(1, 2, two - one);
                    if (sure + ofLastClock > held) {
                        tryLastClock(one, two, sure);
                    }
                }
            }
            outliers = notes.factCount - held;
        }

        private void tryLastClock(int one, int two, int sure) {
            for (int three = -AHEAD_MOST; three <= AHEAD_MOST; three++) {
                int hold = sure + tally(0, 3, three) + tally(1, 3, three - one) + tally(2, 3, three - two);
                if (hold > held) {
                    held = hold;
                    ahead[1] = one;
                    ahead[2] = two;
                    ahead[3] = three;
                }
            }
        }

        /** Twice the lesser clock and the greater one is another number for every two. */
        private static int tallyOf(int a, int b, int apart) {
            return (2 * a + b) * TALLIES + APART_MOST + apart;
        }

        private int tally(int a, int b, int apart) {
            return tallies[tallyOf(a, b, apart)];
        }

        private void countFacts(Notes notes) {
            Arrays.fill(tallies, 0);
            ofLastClock = 0;
            for (int f = 0; f < notes.factCount; f++) {
                int a = notes.ofFact(f, A);
                int b = notes.ofFact(f, B);
                int apart = notes.ofFact(f, V) - notes.ofFact(f, U);
                countFact(Math.min(a, b), Math.max(a, b), a < b ? apart : -apart);
            }
        }

        private void countFact(int a, int b, int apart) {
            if (isBetween(apart, -APART_MOST, APART_MOST)) {
                tallies[tallyOf(a, b, apart)]++;
                ofLastClock += b == CLOCKS - 1 ? 1 : 0;
            }
        }
    }
}
