// The face of the document is BambooTower itself. All that changes can change stands in a Scaffold; copies of
// it, made once in the constructor and used again, hold what can be undone, what is saved and what comes ahead.
public final class BambooTower {

    public static final int NONE = -1;
    public static final int BAD = -2;
    public static final int REFUSED = -3;
    public static final int NOTHING = -4;

    private static final int MOST_BUNDLES = 8;
    private static final int MOST_BUNDLE_POLES = 30;
    private static final int MOST_WEEKS = 60;
    private static final int DAYS_A_WEEK = 7;
    private static final int POLE_STRENGTH = 12;
    private static final int WEEKS_A_POINT = 6;

    private static final int FIRST_STRIPS = 60;
    private static final int MOST_STRIPS = 200;
    private static final int MOST_NEW_STRIPS = 99;
    private static final int STRIPS_A_POLE = 2;

    private static final int MOST_STOREYS = 10;
    private static final int LEAST_POLES = 4;
    private static final int MOST_POLES = 8;
    private static final int MOST_HOURS = 40;
    private static final int MOST_LOADS = 9;
    private static final int LAST_GOOD_TIE = 20;
    private static final int MOST_TIE_DAYS = 99;
    private static final int TIE_DAYS_A_POINT = 5;
    private static final int STOREYS_A_POINT = 2;

    private static final int MOST_CREWS = 5;
    private static final int MOST_SKILL = 4;
    private static final int MOST_INSPECTORS = 3;
    private static final int MOST_NOSE = 9;
    private static final int TURNS_A_DAY = 20;

    private static final int WARNING = 3;
    private static final int STORM = 8;
    private static final int MOST_SIGNAL = 10;
    private static final int STORM_TIE_DAYS = 4;

    private static final int MOST_DAYS = 30;
    private static final int DAYS_AHEAD = 60;
    private static final int CHANGES_KEPT = 8;

    private static final int MOST_INPUT = 60;
    private static final int FIRST_CODE = 32;
    private static final int LAST_CODE = 126;
    private static final int MOST_WRITTEN = 200;
    private static final int MOST_ORDERS = 20;
    private static final int NUMBERS_AN_ORDER = 3;

    private static final int FULL = 1;
    private static final int FEW_POLES = 2;
    private static final int FEW_STRIPS = 3;
    private static final int WARNED = 4;
    private static final int OLD_TIE = 5;
    private static final int SHUT = 6;
    private static final int THERE_ALREADY = 7;
    private static final int FEW_TURNS = 8;
    private static final int MANY_LOADS = 9;
    private static final int NEW_TIE = 10;
    private static final int ON_GROUND = 11;
    private static final int BAD_ORDER = 12;
    private static final int SHUT_BY = 13;

    private final Site site = new Site();
    private final Scaffold now = site.scaffold;
    private final Scaffold ahead = new Scaffold();
    private final Scaffold saved = new Scaffold();
    private final History history = new History();
    private final Line input = new Line(MOST_INPUT);
    private final Line line = new Line(MOST_WRITTEN);
    private final Orders orders = new Orders();
    private boolean isSaved = false;
    private int faultPlace = NOTHING;

    public BambooTower() {
    }

    public int clear() {
        int day = now.day;
        now.makeBare();
        history.forget();
        return day;
    }

    public int append(char character) {
        if (!isWithin(character, FIRST_CODE, LAST_CODE) || input.length >= MOST_INPUT) {
            return BAD;
        }
        input.put(character);
        return input.length;
    }

    public int bundle(int poles, int age) {
        history.note(now);
        return kept(site.addBundle(poles, age));
    }

    public int strips(int many) {
        history.note(now);
        return kept(site.addStrips(many));
    }

    public int build(int bundle, int poles, int work) {
        history.note(now);
        return kept(site.addStorey(bundle, poles, work));
    }

    public int tie(int storey) {
        history.note(now);
        return kept(site.tieAnew(storey));
    }

    public int crew(int skill) {
        history.note(now);
        return kept(site.addCrew(skill));
    }

    public int up(int crew, int storey) {
        history.note(now);
        return kept(site.sendUp(crew, storey));
    }

    public int down(int crew) {
        history.note(now);
        return kept(site.callDown(crew));
    }

    public int lift(int storey, int loads) {
        history.note(now);
        return kept(site.bringLoads(storey, loads));
    }

    public int signal(int signal) {
        history.note(now);
        return kept(site.changeSignal(signal));
    }

    public int inspector(int nose) {
        history.note(now);
        return kept(site.addInspector(nose));
    }

    public int inspect(int inspector, int storey) {
        history.note(now);
        return kept(site.lookAt(inspector, storey));
    }

    public int day(int days) {
        history.note(now);
        return kept(site.passDays(days));
    }

    public int script() {
        int place = orders.read(input);
        input.makeEmpty();
        if (place != NOTHING) {
            faultPlace = place;
            return BAD;
        }
        history.note(now);
        for (int order = 0; order < orders.count; order++) {
            int answer = obey(order);
            if (answer < 0) {
                now.take(history.noted());
                return site.reasons.refuseOrder(order, answer == REFUSED);
            }
        }
        return kept(orders.count);
    }

    public int fault() {
        return faultPlace;
    }

    public int reason(int depth, boolean isDetail) {
        return site.reasons.tell(depth, isDetail);
    }

    public int bundleOf(int bundle, boolean isAge) {
        if (!now.bundles.has(bundle)) {
            return NONE;
        }
        return isAge ? now.bundles.weeksOf(bundle) : now.bundles.polesOf(bundle);
    }

    public int storeyOf(int storey, int what) {
        Storeys storeys = now.storeys;
        if (!storeys.has(storey)) {
            return NONE;
        }
        switch (what) {
            case 0:
                return storeys.polesOf(storey);
            case 1:
                return storeys.weeksOf(storey);
            case 2:
                return storeys.tieOf(storey);
            case 3:
                return storeys.hoursOf(storey);
            case 4:
                return storeys.loadsOf(storey);
            case 5:
                return storeys.isShut(storey) ? 1 : 0;
            case 6:
                return now.crews.bitsOn(storey);
            default:
                return BAD;
        }
    }

    public int strength(int storey, boolean isAgain) {
        if (!now.storeys.has(storey)) {
            return NONE;
        }
        return isAgain ? now.storeys.strengthByStepsOf(storey) : now.storeys.strengthOf(storey);
    }

    public int weakest() {
        return now.storeys.leastStrong();
    }

    public int oldest(int place) {
        return now.storeys.atPlaceByTie(place);
    }

    public int crewOf(int crew, int what) {
        Crews crews = now.crews;
        if (!crews.has(crew)) {
            return NONE;
        }
        switch (what) {
            case 0:
                return crews.skillOf(crew);
            case 1:
                return crews.placeOf(crew);
            case 2:
                return worksToday(crew) ? 1 : 0;
            case 3:
                return crews.hoursOf(crew);
            default:
                return BAD;
        }
    }

    public int inspectorOf(int inspector, int what) {
        Inspectors inspectors = now.inspectors;
        if (!inspectors.has(inspector)) {
            return NONE;
        }
        switch (what) {
            case 0:
                return inspectors.noseOf(inspector);
            case 1:
                return now.storeys.howManyShutBy(inspector);
            case 2:
                return inspectors.findsOf(inspector);
            default:
                return BAD;
        }
    }

    public int highest() {
        return now.isWarned() ? NOTHING : now.storeys.highestOpen();
    }

    public int wouldFall(int signal) {
        if (!isWithin(signal, STORM, MOST_SIGNAL)) {
            return BAD;
        }
        return now.storeys.lowestWeakerThan(signal);
    }

    public int oldIn(int storey) {
        if (!now.storeys.has(storey)) {
            return NONE;
        }
        ahead.take(now);
        for (int days = 0; days <= DAYS_AHEAD; days++) {
            if (!ahead.storeys.has(storey)) {
                return NOTHING;
            }
            if (ahead.storeys.isOld(storey)) {
                return days;
            }
            ahead.passDay();
        }
        return NOTHING;
    }

    public int doneIn(int storey) {
        if (!now.storeys.has(storey)) {
            return NONE;
        }
        ahead.take(now);
        for (int days = 0; days <= DAYS_AHEAD; days++) {
            if (!ahead.storeys.has(storey)) {
                return NOTHING;
            }
            if (ahead.storeys.hoursOf(storey) == 0) {
                return days;
            }
            ahead.passDay();
        }
        return NOTHING;
    }

    public int describe() {
        line.makeEmpty();
        for (int storey = now.storeys.count - 1; storey >= 0; storey--) {
            writeStorey(storey);
            if (storey > 0) {
                line.put(' ');
            }
        }
        if (now.storeys.count == 0) {
            writeBare();
        }
        return line.length;
    }

    public int written(int index) {
        return index < 0 || index >= line.length ? NONE : line.signAt(index);
    }

    public int work(boolean isAgain) {
        return isAgain ? now.toldHours - now.doneHours - now.lostHours : now.storeys.allHours();
    }

    public float meanStrength() {
        int many = now.storeys.count;
        return many == 0 ? 0.0f : (float) now.storeys.allStrength() / (float) many;
    }

    public double doneShare() {
        return now.toldHours == 0 ? 0.0 : (double) now.doneHours / (double) now.toldHours;
    }

    public int account(int what) {
        switch (what) {
            case 0:
                return now.day;
            case 1:
                return now.signal;
            case 2:
                return now.bundles.count;
            case 3:
                return now.bundles.allPoles();
            case 4:
                return now.storeys.count;
            case 5:
                return now.storeys.howManyShut();
            case 6:
                return now.storeys.howManyOld();
            case 7:
                return now.crews.count;
            case 8:
                return now.crews.howManyUp();
            case 9:
                return now.strips;
            case 10:
                return now.turns;
            case 11:
                return now.storeys.allLoads();
            case 12:
                return now.inspectors.count;
            case 13:
                return now.fines;
            case 14:
                return now.doneHours;
            case 15:
                return now.fallenStoreys;
            case 16:
                return now.lostPoles;
            case 17:
                return input.length;
            case 18:
                return history.count;
            default:
                return BAD;
        }
    }

    public int undo() {
        if (history.count == 0) {
            return NOTHING;
        }
        now.take(history.stepBack());
        return history.count;
    }

    public int save() {
        saved.take(now);
        isSaved = true;
        return now.day;
    }

    public int restore() {
        if (!isSaved) {
            return NOTHING;
        }
        now.take(saved);
        history.forget();
        return now.day;
    }

    // No change answers with less than 0 but by a code, so what was noted before it is kept only then.
    private int kept(int answer) {
        if (answer >= 0) {
            history.keepNoted();
        }
        return answer;
    }

    private int obey(int order) {
        int first = orders.numberOf(order, 0);
        int second = orders.numberOf(order, 1);
        switch (orders.letterOf(order)) {
            case 'b':
                return site.addStorey(first, second, orders.numberOf(order, 2));
            case 't':
                return site.tieAnew(first);
            case 'u':
                return site.sendUp(first, second);
            case 'd':
                return site.callDown(first);
            case 'l':
                return site.bringLoads(first, second);
            case 'g':
                return site.changeSignal(first);
            case 'i':
                return site.lookAt(first, second);
            case 'n':
                return site.passDays(first);
            default:
                return BAD;
        }
    }

    // Crews with lower numbers work first and may leave neither work nor loads.
    private boolean worksToday(int crew) {
        ahead.take(now);
        for (int lower = 0; lower < crew; lower++) {
            if (ahead.wouldWork(lower)) {
                ahead.letWork(lower);
            }
        }
        return ahead.wouldWork(crew);
    }

    private void writeStorey(int storey) {
        Storeys storeys = now.storeys;
        line.putNumber(storey);
        line.put(':');
        line.putNumber(storeys.polesOf(storey));
        line.put('p');
        line.putNumber(storeys.tieOf(storey));
        if (storeys.isShut(storey)) {
            line.put('#');
        }
        int crewsThere = now.crews.howManyOn(storey);
        for (int crew = 0; crew < crewsThere; crew++) {
            line.put('*');
        }
        if (storeys.hoursOf(storey) > 0) {
            line.put('w');
            line.putNumber(storeys.hoursOf(storey));
        }
    }

    private void writeBare() {
        line.put('b');
        line.put('a');
        line.put('r');
        line.put('e');
    }

    private static boolean isWithin(int number, int least, int most) {
        return number >= least && number <= most;
    }

    private static int at(int[] row, int index) {
        return index >= 0 && index < row.length ? row[index] : 0;
    }

    private static void put(int[] row, int index, int number) {
        if (index >= 0 && index < row.length) {
            row[index] = number;
        }
    }

    private static int sum(int[] row, int many) {
        int sum = 0;
        for (int i = 0; i < many; i++) {
            sum += at(row, i);
        }
        return sum;
    }

    private static void copy(int[] from, int[] to) {
        System.arraycopy(from, 0, to, 0, Math.min(from.length, to.length));
    }

    private static void makeOlder(int[] row, int many, int by, int most) {
        for (int i = 0; i < many; i++) {
            put(row, i, Math.min(at(row, i) + by, most));
        }
    }

    // The longest chain is that of a script, of an order that found a storey shut, and of who shut it.
    private static final class Reasons {
        private static final int LONGEST = 3;

        private final int[] kinds = new int[LONGEST];
        private final int[] details = new int[LONGEST];
        private int count = 0;

        int refuse(int kind, int detail) {
            count = 0;
            putBehind(kind, detail);
            return REFUSED;
        }

        int refuseShut(int storey, int inspector) {
            refuse(SHUT, storey);
            putBehind(SHUT_BY, inspector);
            return REFUSED;
        }

        int refuseOrder(int order, boolean isRefused) {
            int behind = isRefused ? count : 0;
            for (int i = behind; i > 0; i--) {
                put(kinds, i, at(kinds, i - 1));
                put(details, i, at(details, i - 1));
            }
            put(kinds, 0, BAD_ORDER);
            put(details, 0, order);
            count = Math.min(behind + 1, LONGEST);
            return REFUSED;
        }

        int tell(int depth, boolean isDetail) {
            if (depth < 0) {
                return BAD;
            }
            if (depth >= count) {
                return NOTHING;
            }
            return at(isDetail ? details : kinds, depth);
        }

        private void putBehind(int kind, int detail) {
            put(kinds, count, kind);
            put(details, count, detail);
            count++;
        }
    }

    private static final class Line {
        private final char[] signs;
        private int length = 0;

        Line(int most) {
            signs = new char[most > 0 ? most : 0];
        }

        void makeEmpty() {
            length = 0;
        }

        void put(char sign) {
            if (length >= 0 && length < signs.length) {
                signs[length] = sign;
                length++;
            }
        }

        // No number that is written has more than two digits.
        void putNumber(int number) {
            if (number > 9) {
                put((char) ('0' + number / 10 % 10));
            }
            put((char) ('0' + number % 10));
        }

        // Behind the end stands a sign that no text has.
        char signAt(int index) {
            return index >= 0 && index < length && index < signs.length ? signs[index] : (char) 0;
        }
    }

    // The orders of a text, read whole before the first one is carried out.
    private static final class Orders {
        private static final char DIGIT = '#';
        private static final char NUMBER = '%';

        private final int[] letters = new int[MOST_ORDERS];
        private final int[] numbers = new int[MOST_ORDERS * NUMBERS_AN_ORDER];
        private int count = 0;
        private int place = 0;

        // The fault position, or NOTHING.
        int read(Line text) {
            count = 0;
            place = 0;
            for (int order = 0; order < MOST_ORDERS; order++) {
                if (!readOrder(text)) {
                    return place;
                }
                count++;
                if (place >= text.length) {
                    return NOTHING;
                }
                if (!readSign(text, ';')) {
                    return place;
                }
            }
            return place;
        }

        int letterOf(int order) {
            return at(letters, order);
        }

        int numberOf(int order, int which) {
            return at(numbers, order * NUMBERS_AN_ORDER + which);
        }

        private boolean readOrder(Line text) {
            char letter = text.signAt(place);
            String form = formOf(letter);
            if (form.isEmpty()) {
                return false;
            }
            put(letters, count, letter);
            place++;
            int which = 0;
            for (int i = 0; i < form.length(); i++) {
                char part = form.charAt(i);
                boolean isSign = part != DIGIT && part != NUMBER;
                if (isSign ? !readSign(text, part) : !readNumber(text, which, part == NUMBER)) {
                    return false;
                }
                which += isSign ? 0 : 1;
            }
            return true;
        }

        private static String formOf(char letter) {
            switch (letter) {
                case 'b':
                    return "#*#:%";
                case 't':
                case 'd':
                    return "#";
                case 'u':
                case 'i':
                    return "#@#";
                case 'l':
                    return "#*#";
                case 'g':
                case 'n':
                    return "%";
                default:
                    return "";
            }
        }

        private boolean readSign(Line text, char sign) {
            if (text.signAt(place) != sign) {
                return false;
            }
            place++;
            return true;
        }

        private boolean readNumber(Line text, int which, boolean maySecond) {
            if (!isDigit(text.signAt(place))) {
                return false;
            }
            int number = text.signAt(place) - '0';
            place++;
            if (maySecond && isDigit(text.signAt(place))) {
                number = number * 10 + text.signAt(place) - '0';
                place++;
            }
            put(numbers, count * NUMBERS_AN_ORDER + which, number);
            return true;
        }

        private static boolean isDigit(char sign) {
            return sign >= '0' && sign <= '9';
        }
    }

    // A ring of what stood before each of the latest changes, with one place more than can be undone: there
    // a call notes what stands before it is known whether it is a change.
    private static final class History {
        private static final int PLACES = CHANGES_KEPT + 1;

        private final Scaffold[] places = new Scaffold[PLACES];
        private final Scaffold spare = new Scaffold();
        private int next = 0;
        private int count = 0;

        History() {
            for (int i = 0; i < places.length; i++) {
                places[i] = new Scaffold();
            }
        }

        void note(Scaffold scaffold) {
            noted().take(scaffold);
        }

        Scaffold noted() {
            Scaffold found = next >= 0 && next < places.length ? places[next] : null;
            return found == null ? spare : found;
        }

        void keepNoted() {
            next = (next + 1) % PLACES;
            count = Math.min(count + 1, CHANGES_KEPT);
        }

        Scaffold stepBack() {
            next = (next + PLACES - 1) % PLACES;
            count--;
            return noted();
        }

        void forget() {
            count = 0;
        }
    }

    private static final class Bundles {
        private final int[] poles = new int[MOST_BUNDLES];
        private final int[] weeks = new int[MOST_BUNDLES];
        private int count = 0;

        boolean has(int bundle) {
            return bundle >= 0 && bundle < count;
        }

        int polesOf(int bundle) {
            return at(poles, bundle);
        }

        int weeksOf(int bundle) {
            return at(weeks, bundle);
        }

        int allPoles() {
            return sum(poles, count);
        }

        int add(int polesOfIt, int weeksOfIt) {
            put(poles, count, polesOfIt);
            put(weeks, count, weeksOfIt);
            count++;
            return count - 1;
        }

        void takeOut(int bundle, int many) {
            put(poles, bundle, polesOf(bundle) - many);
        }

        void getOlder() {
            makeOlder(weeks, count, 1, MOST_WEEKS);
        }

        void makeNone() {
            count = 0;
        }

        void take(Bundles other) {
            copy(other.poles, poles);
            copy(other.weeks, weeks);
            count = other.count;
        }
    }

    private static final class Storeys {
        private final int[] poles = new int[MOST_STOREYS];
        private final int[] weeks = new int[MOST_STOREYS];
        private final int[] ties = new int[MOST_STOREYS];
        private final int[] hours = new int[MOST_STOREYS];
        private final int[] loads = new int[MOST_STOREYS];
        private final int[] shutters = new int[MOST_STOREYS];
        private int count = 0;

        boolean has(int storey) {
            return storey >= 0 && storey < count;
        }

        int polesOf(int storey) {
            return at(poles, storey);
        }

        int weeksOf(int storey) {
            return at(weeks, storey);
        }

        int tieOf(int storey) {
            return at(ties, storey);
        }

        int hoursOf(int storey) {
            return at(hours, storey);
        }

        int loadsOf(int storey) {
            return at(loads, storey);
        }

        int shutterOf(int storey) {
            return at(shutters, storey);
        }

        boolean isShut(int storey) {
            return shutterOf(storey) != NOTHING;
        }

        boolean isOld(int storey) {
            return at(ties, storey) > LAST_GOOD_TIE;
        }

        int stripsFor(int storey) {
            return polesOf(storey) * STRIPS_A_POLE;
        }

        int strengthOf(int storey) {
            int strength = POLE_STRENGTH - at(weeks, storey) / WEEKS_A_POINT + at(poles, storey)
                - at(ties, storey) / TIE_DAYS_A_POINT - storey / STOREYS_A_POINT;
            return Math.max(strength, 0);
        }

        int strengthByStepsOf(int storey) {
            int strength = POLE_STRENGTH - weeksOf(storey) / WEEKS_A_POINT;
            for (int pole = 1; pole <= polesOf(storey); pole++) {
                strength++;
            }
            for (int days = TIE_DAYS_A_POINT; days <= tieOf(storey); days += TIE_DAYS_A_POINT) {
                strength--;
            }
            for (int below = STOREYS_A_POINT; below <= storey; below += STOREYS_A_POINT) {
                strength--;
            }
            return strength < 0 ? 0 : strength;
        }

        int allStrength() {
            int sum = 0;
            for (int storey = 0; storey < count; storey++) {
                sum += strengthOf(storey);
            }
            return sum;
        }

        int allHours() {
            return sum(hours, count);
        }

        int allLoads() {
            return sum(loads, count);
        }

        int howManyShut() {
            int many = 0;
            for (int storey = 0; storey < count; storey++) {
                many += isShut(storey) ? 1 : 0;
            }
            return many;
        }

        int howManyShutBy(int inspector) {
            int many = 0;
            for (int storey = 0; storey < count; storey++) {
                many += shutterOf(storey) == inspector ? 1 : 0;
            }
            return many;
        }

        int howManyOld() {
            int many = 0;
            for (int storey = 0; storey < count; storey++) {
                many += isOld(storey) ? 1 : 0;
            }
            return many;
        }

        int lowestOldUpTo(int storey) {
            for (int below = 0; below <= storey && below < count; below++) {
                if (at(ties, below) > LAST_GOOD_TIE) {
                    return below;
                }
            }
            return NOTHING;
        }

        int lowestWeakerThan(int signal) {
            for (int storey = 0; storey < count; storey++) {
                if (strengthOf(storey) < signal) {
                    return storey;
                }
            }
            return NOTHING;
        }

        int leastStrong() {
            int least = NOTHING;
            for (int storey = 0; storey < count; storey++) {
                if (least == NOTHING || strengthOf(storey) < strengthOf(least)) {
                    least = storey;
                }
            }
            return least;
        }

        // An old tie keeps crews from all storeys above it, a shut storey only from itself.
        int highestOpen() {
            int highest = NOTHING;
            for (int storey = 0; storey < count && !isOld(storey); storey++) {
                if (!isShut(storey)) {
                    highest = storey;
                }
            }
            return highest;
        }

        int atPlaceByTie(int place) {
            for (int storey = 0; storey < count; storey++) {
                if (placeByTieOf(storey) == place) {
                    return storey;
                }
            }
            return NONE;
        }

        private int placeByTieOf(int storey) {
            int before = 0;
            for (int other = 0; other < count; other++) {
                boolean isHigherAsOld = tieOf(other) == tieOf(storey) && other > storey;
                before += tieOf(other) > tieOf(storey) || isHigherAsOld ? 1 : 0;
            }
            return before;
        }

        int add(int polesOfIt, int weeksOfThem, int hoursOfIt) {
            put(poles, count, polesOfIt);
            put(weeks, count, weeksOfThem);
            put(hours, count, hoursOfIt);
            put(loads, count, 0);
            bind(count);
            count++;
            return count - 1;
        }

        void bind(int storey) {
            put(ties, storey, 0);
            put(shutters, storey, NOTHING);
        }

        void shut(int storey, int inspector) {
            put(shutters, storey, inspector);
        }

        void addLoads(int storey, int many) {
            put(loads, storey, loadsOf(storey) + many);
        }

        // What is worked takes one load, however many hours it is.
        void workOff(int storey, int many) {
            put(hours, storey, at(hours, storey) - many);
            put(loads, storey, at(loads, storey) - 1);
        }

        void makeTiesOlder(int days) {
            makeOlder(ties, count, days, MOST_TIE_DAYS);
        }

        void makePolesOlder() {
            makeOlder(weeks, count, 1, MOST_WEEKS);
        }

        void cutTo(int many) {
            count = Math.max(Math.min(count, many), 0);
        }

        void take(Storeys other) {
            copy(other.poles, poles);
            copy(other.weeks, weeks);
            copy(other.ties, ties);
            copy(other.hours, hours);
            copy(other.loads, loads);
            copy(other.shutters, shutters);
            count = other.count;
        }
    }

    private static final class Crews {
        private final int[] skills = new int[MOST_CREWS];
        private final int[] places = new int[MOST_CREWS];
        private final int[] hours = new int[MOST_CREWS];
        private int count = 0;

        boolean has(int crew) {
            return crew >= 0 && crew < count;
        }

        int skillOf(int crew) {
            return at(skills, crew);
        }

        // The storey, or NOTHING on the ground.
        int placeOf(int crew) {
            return at(places, crew);
        }

        int hoursOf(int crew) {
            return at(hours, crew);
        }

        boolean isUp(int crew) {
            return at(places, crew) != NOTHING;
        }

        int bitsOn(int storey) {
            int bits = 0;
            for (int crew = 0; crew < count; crew++) {
                bits |= placeOf(crew) == storey ? 1 << crew : 0;
            }
            return bits;
        }

        int howManyOn(int storey) {
            return Integer.bitCount(bitsOn(storey));
        }

        int howManyUp() {
            int many = 0;
            for (int crew = 0; crew < count; crew++) {
                many += isUp(crew) ? 1 : 0;
            }
            return many;
        }

        int add(int skill) {
            put(skills, count, skill);
            put(places, count, NOTHING);
            put(hours, count, 0);
            count++;
            return count - 1;
        }

        void moveTo(int crew, int place) {
            put(places, crew, place);
        }

        void addHours(int crew, int many) {
            put(hours, crew, at(hours, crew) + many);
        }

        void comeDownFrom(int storey) {
            for (int crew = 0; crew < count; crew++) {
                if (placeOf(crew) == storey) {
                    moveTo(crew, NOTHING);
                }
            }
        }

        void allComeDown() {
            for (int crew = 0; crew < count; crew++) {
                moveTo(crew, NOTHING);
            }
        }

        void makeNone() {
            count = 0;
        }

        void take(Crews other) {
            copy(other.skills, skills);
            copy(other.places, places);
            copy(other.hours, hours);
            count = other.count;
        }
    }

    private static final class Inspectors {
        private final int[] noses = new int[MOST_INSPECTORS];
        private final int[] finds = new int[MOST_INSPECTORS];
        private int count = 0;

        boolean has(int inspector) {
            return inspector >= 0 && inspector < count;
        }

        int noseOf(int inspector) {
            return at(noses, inspector);
        }

        int findsOf(int inspector) {
            return at(finds, inspector);
        }

        int add(int nose) {
            put(noses, count, nose);
            put(finds, count, 0);
            count++;
            return count - 1;
        }

        void addFind(int inspector) {
            put(finds, inspector, findsOf(inspector) + 1);
        }

        void makeNone() {
            count = 0;
        }

        void take(Inspectors other) {
            copy(other.noses, noses);
            copy(other.finds, finds);
            count = other.count;
        }
    }

    // Does with the scaffold what is asked, or refuses it before anything is different.
    private static final class Site {
        private final Reasons reasons = new Reasons();
        private final Scaffold scaffold = new Scaffold();

        int addBundle(int poles, int weeks) {
            if (!isWithin(poles, 1, MOST_BUNDLE_POLES) || !isWithin(weeks, 0, MOST_WEEKS)) {
                return BAD;
            }
            if (scaffold.bundles.count >= MOST_BUNDLES) {
                return reasons.refuse(FULL, MOST_BUNDLES);
            }
            return scaffold.bundles.add(poles, weeks);
        }

        int addStrips(int many) {
            if (!isWithin(many, 1, MOST_NEW_STRIPS)) {
                return BAD;
            }
            scaffold.strips = Math.min(scaffold.strips + many, MOST_STRIPS);
            return scaffold.strips;
        }

        int addStorey(int bundle, int poles, int hours) {
            if (!scaffold.bundles.has(bundle)) {
                return NONE;
            }
            if (!isWithin(poles, LEAST_POLES, MOST_POLES) || !isWithin(hours, 0, MOST_HOURS)) {
                return BAD;
            }
            if (scaffold.storeys.count >= MOST_STOREYS) {
                return reasons.refuse(FULL, MOST_STOREYS);
            }
            if (scaffold.isWarned()) {
                return reasons.refuse(WARNED, scaffold.signal);
            }
            if (scaffold.bundles.polesOf(bundle) < poles) {
                return reasons.refuse(FEW_POLES, scaffold.bundles.polesOf(bundle));
            }
            int needed = poles * STRIPS_A_POLE;
            if (scaffold.strips < needed) {
                return reasons.refuse(FEW_STRIPS, needed - scaffold.strips);
            }
            scaffold.bundles.takeOut(bundle, poles);
            scaffold.strips -= needed;
            scaffold.toldHours += hours;
            return scaffold.storeys.add(poles, scaffold.bundles.weeksOf(bundle), hours);
        }

        int tieAnew(int storey) {
            if (!scaffold.storeys.has(storey)) {
                return NONE;
            }
            if (scaffold.isWarned()) {
                return reasons.refuse(WARNED, scaffold.signal);
            }
            int age = scaffold.storeys.tieOf(storey);
            if (age == 0) {
                return reasons.refuse(NEW_TIE, storey);
            }
            int needed = scaffold.storeys.stripsFor(storey);
            if (scaffold.strips < needed) {
                return reasons.refuse(FEW_STRIPS, needed - scaffold.strips);
            }
            scaffold.strips -= needed;
            scaffold.storeys.bind(storey);
            return age;
        }

        int addCrew(int skill) {
            if (!isWithin(skill, 1, MOST_SKILL)) {
                return BAD;
            }
            if (scaffold.crews.count >= MOST_CREWS) {
                return reasons.refuse(FULL, MOST_CREWS);
            }
            return scaffold.crews.add(skill);
        }

        int sendUp(int crew, int storey) {
            if (!scaffold.crews.has(crew) || !scaffold.storeys.has(storey)) {
                return NONE;
            }
            if (scaffold.crews.placeOf(crew) == storey) {
                return reasons.refuse(THERE_ALREADY, storey);
            }
            if (scaffold.isWarned()) {
                return reasons.refuse(WARNED, scaffold.signal);
            }
            int old = scaffold.storeys.lowestOldUpTo(storey);
            if (old != NOTHING) {
                return reasons.refuse(OLD_TIE, old);
            }
            if (scaffold.storeys.isShut(storey)) {
                return reasons.refuseShut(storey, scaffold.storeys.shutterOf(storey));
            }
            scaffold.crews.moveTo(crew, storey);
            return scaffold.crews.howManyOn(storey);
        }

        int callDown(int crew) {
            if (!scaffold.crews.has(crew)) {
                return NONE;
            }
            if (!scaffold.crews.isUp(crew)) {
                return reasons.refuse(ON_GROUND, crew);
            }
            int place = scaffold.crews.placeOf(crew);
            scaffold.crews.moveTo(crew, NOTHING);
            return place;
        }

        int bringLoads(int storey, int many) {
            if (!scaffold.storeys.has(storey)) {
                return NONE;
            }
            if (!isWithin(many, 1, MOST_LOADS)) {
                return BAD;
            }
            if (scaffold.isWarned()) {
                return reasons.refuse(WARNED, scaffold.signal);
            }
            if (scaffold.storeys.loadsOf(storey) + many > MOST_LOADS) {
                return reasons.refuse(MANY_LOADS, scaffold.storeys.loadsOf(storey));
            }
            int needed = many * (storey + 1);
            if (scaffold.turns < needed) {
                return reasons.refuse(FEW_TURNS, scaffold.turns);
            }
            scaffold.turns -= needed;
            scaffold.storeys.addLoads(storey, many);
            return scaffold.turns;
        }

        int changeSignal(int next) {
            if (!isWithin(next, 0, MOST_SIGNAL)) {
                return BAD;
            }
            int before = scaffold.signal;
            scaffold.signal = next;
            if (scaffold.isWarned()) {
                scaffold.crews.allComeDown();
            }
            return before;
        }

        int addInspector(int nose) {
            if (!isWithin(nose, 1, MOST_NOSE)) {
                return BAD;
            }
            if (scaffold.inspectors.count >= MOST_INSPECTORS) {
                return reasons.refuse(FULL, MOST_INSPECTORS);
            }
            return scaffold.inspectors.add(nose);
        }

        int lookAt(int inspector, int storey) {
            if (!scaffold.inspectors.has(inspector) || !scaffold.storeys.has(storey)) {
                return NONE;
            }
            if (scaffold.isWarned()) {
                return reasons.refuse(WARNED, scaffold.signal);
            }
            int nose = scaffold.inspectors.noseOf(inspector);
            if (scaffold.storeys.tieOf(storey) + nose <= LAST_GOOD_TIE) {
                return 0;
            }
            if (!scaffold.storeys.isShut(storey)) {
                scaffold.storeys.shut(storey, inspector);
            }
            scaffold.crews.comeDownFrom(storey);
            scaffold.inspectors.addFind(inspector);
            scaffold.fines += nose;
            return 1;
        }

        int passDays(int days) {
            if (!isWithin(days, 1, MOST_DAYS)) {
                return BAD;
            }
            int before = scaffold.fallenStoreys;
            for (int passed = 0; passed < days; passed++) {
                scaffold.passDay();
            }
            return scaffold.fallenStoreys - before;
        }
    }

    // All that changes can change.
    private static final class Scaffold {
        private final Bundles bundles = new Bundles();
        private final Storeys storeys = new Storeys();
        private final Crews crews = new Crews();
        private final Inspectors inspectors = new Inspectors();
        private int day = 0;
        private int signal = 0;
        private int strips = FIRST_STRIPS;
        private int turns = TURNS_A_DAY;
        private int fines = 0;
        private int toldHours = 0;
        private int doneHours = 0;
        private int lostHours = 0;
        private int fallenStoreys = 0;
        private int lostPoles = 0;

        boolean isWarned() {
            return signal >= WARNING;
        }

        void passDay() {
            for (int crew = 0; crew < crews.count; crew++) {
                if (wouldWork(crew)) {
                    letWork(crew);
                }
            }
            boolean isStorm = signal >= STORM;
            storeys.makeTiesOlder(isStorm ? STORM_TIE_DAYS : 1);
            if (isStorm) {
                letFallFrom(storeys.lowestWeakerThan(signal));
            }
            day++;
            turns = TURNS_A_DAY;
            if (day % DAYS_A_WEEK == 0) {
                bundles.getOlder();
                storeys.makePolesOlder();
            }
        }

        boolean wouldWork(int crew) {
            if (!crews.isUp(crew)) {
                return false;
            }
            int place = crews.placeOf(crew);
            return storeys.lowestOldUpTo(place) == NOTHING && storeys.hoursOf(place) > 0
                && storeys.loadsOf(place) > 0;
        }

        void letWork(int crew) {
            int place = crews.placeOf(crew);
            int hours = Math.min(crews.skillOf(crew), storeys.hoursOf(place));
            storeys.workOff(place, hours);
            crews.addHours(crew, hours);
            doneHours += hours;
        }

        // No crew can be on what falls: all came down when the signal was set.
        private void letFallFrom(int lowest) {
            if (lowest == NOTHING) {
                return;
            }
            for (int storey = lowest; storey < storeys.count; storey++) {
                fallenStoreys++;
                lostPoles += storeys.polesOf(storey);
                lostHours += storeys.hoursOf(storey);
            }
            storeys.cutTo(lowest);
        }

        void makeBare() {
            bundles.makeNone();
            storeys.cutTo(0);
            crews.makeNone();
            inspectors.makeNone();
            day = 0;
            signal = 0;
            strips = FIRST_STRIPS;
            turns = TURNS_A_DAY;
            fines = 0;
            toldHours = 0;
            doneHours = 0;
            lostHours = 0;
            fallenStoreys = 0;
            lostPoles = 0;
        }

        void take(Scaffold other) {
            bundles.take(other.bundles);
            storeys.take(other.storeys);
            crews.take(other.crews);
            inspectors.take(other.inspectors);
            day = other.day;
            signal = other.signal;
            strips = other.strips;
            turns = other.turns;
            fines = other.fines;
            toldHours = other.toldHours;
            doneHours = other.doneHours;
            lostHours = other.lostHours;
            fallenStoreys = other.fallenStoreys;
            lostPoles = other.lostPoles;
        }
    }
}
