import java.util.Arrays;

/** Terms of names and heads in six slots, and three answers that tell what names stand for. */
public final class Branchmatch {
    private static final int NONE = -1;
    private static final int REFUSED = -9;
    private static final int SLOTS = 6;
    private static final int ANSWERS = 3;
    private static final int NAMES = 8;
    private static final int HEADS = 8;
    private static final int MOST = 16;
    /** A head's letter is kept as this and its number, as letter() tells it. */
    private static final int HEAD_FROM = 10;
    private static final int[] PARTS = {0, 0, 1, 1, 2, 2, 3, 3};
    private static final String HEAD_SIGNS = "KLMNPQST";
    private static final int CLASH = 1;
    private static final int WITHIN = 2;
    /** Far more steps than terms of this size can need. */
    private static final int MANY = 1000000;

    private final Term[] slots = new Term[SLOTS];
    private final Answer[] answers = new Answer[ANSWERS];
    private int done;
    private int refused;
    private int knocks;
    private final Term spare = new Term(MOST);
    private final Term otherSpare = new Term(MOST);
    /** An answer makes of each letter at most a whole term, so these hold whatever comes of a use. */
    private final Term wide = new Term(MOST * MOST);
    private final Term otherWide = new Term(MOST * MOST);
    private final Answer spareAnswer = new Answer();
    private final Answer otherAnswer = new Answer();
    private final Steps bySteps = new Steps();
    private final Classes byClasses = new Classes();
    private final Shape shape = new Shape();

    public Branchmatch() {
        for (int k = 0; k < SLOTS; k++) {
            slots[k] = new Term(MOST);
            slots[k].becomeName(k);
        }
        for (int k = 0; k < ANSWERS; k++) {
            answers[k] = new Answer();
        }
    }

    // ---- acts: terms

    public int name(int slot, int name) throws IndexOutOfBoundsException, IllegalArgumentException {
        Term term = termOf(slot);
        needName(name);
        int before = term.length();
        term.becomeName(name);
        return did(before);
    }

    public int head(int slot, int head, int first, int second, int third)
            throws IndexOutOfBoundsException, IllegalArgumentException {
        Term term = termOf(slot);
        Term one = termOf(first);
        Term two = termOf(second);
        Term three = termOf(third);
        if (head < 0 || head >= HEADS) {
            throw new IllegalArgumentException("no such head");
        }
        int letter = HEAD_FROM + head;
        int parts = partsOf(letter);
        spare.empty();
        spare.add(letter);
        if (parts > 0) {
            spare.addTerm(one);
        }
        if (parts > 1) {
            spare.addTerm(two);
        }
        if (parts > 2) {
            spare.addTerm(three);
        }
        return putSpareInto(term);
    }

    public int copy(int slot, int into) throws IndexOutOfBoundsException {
        Term from = termOf(slot);
        Term to = termOf(into);
        to.becomeAs(from);
        return did(to.length());
    }

    public int swap(int slot, int other) throws IndexOutOfBoundsException {
        Term one = termOf(slot);
        Term two = termOf(other);
        boolean isSame = one.isLike(two);
        spare.becomeAs(one);
        one.becomeAs(two);
        two.becomeAs(spare);
        return did(isSame ? 0 : 1);
    }

    public int part(int slot, int place, int into) throws IndexOutOfBoundsException {
        Term from = termOf(slot);
        Term to = termOf(into);
        if (!from.hasPlace(place)) {
            return refuse();
        }
        spare.empty();
        spare.addRow(from, place, from.endOf(place));
        return putSpareInto(to);
    }

    public int graft(int slot, int place, int from) throws IndexOutOfBoundsException {
        Term term = termOf(slot);
        Term scion = termOf(from);
        if (!term.hasPlace(place)) {
            return refuse();
        }
        spare.empty();
        spare.addRow(term, 0, place);
        spare.addTerm(scion);
        spare.addRow(term, term.endOf(place), term.length());
        return putSpareInto(term);
    }

    public int put(int slot, int name, int from) throws IndexOutOfBoundsException, IllegalArgumentException {
        Term term = termOf(slot);
        Term value = termOf(from);
        needName(name);
        int places = term.placesOf(name);
        spare.empty();
        for (int i = 0; i < term.length(); i++) {
            if (term.letterAt(i) == name) {
                spare.addTerm(value);
            } else {
                spare.add(term.letterAt(i));
            }
        }
        return putSpareInto(term) == REFUSED ? REFUSED : places;
    }

    public int shift(int slot, int by) throws IndexOutOfBoundsException, IllegalArgumentException {
        Term term = termOf(slot);
        if (by < 0 || by >= NAMES) {
            throw new IllegalArgumentException("by is not 0 to 7");
        }
        spare.empty();
        for (int i = 0; i < term.length(); i++) {
            int letter = term.letterAt(i);
            spare.add(isName(letter) ? (letter + by) % NAMES : letter);
        }
        term.becomeAs(spare);
        return did(Integer.bitCount(term.allNames()));
    }

    public int plain(int slot) throws IndexOutOfBoundsException {
        Term term = termOf(slot);
        spare.becomePlainOf(term);
        term.becomeAs(spare);
        return did(Integer.bitCount(term.allNames()));
    }

    public int use(int answer, int slot, int into) throws IndexOutOfBoundsException {
        Answer used = answerOf(answer);
        Term from = termOf(slot);
        Term to = termOf(into);
        spare.empty();
        used.addUsed(from, 0, from.length(), spare);
        return putSpareInto(to);
    }

    public int common(int one, int other, int into) throws IndexOutOfBoundsException {
        Term left = termOf(one);
        Term right = termOf(other);
        Term to = termOf(into);
        return shape.drawInto(left, right, spare) ? putSpareInto(to) : refuse();
    }

    // ---- acts: answers

    public int forget(int answer) throws IndexOutOfBoundsException {
        Answer one = answerOf(answer);
        int before = one.movedCount();
        one.moveNone();
        return did(before);
    }

    public int tell(int answer, int name, int slot) throws IndexOutOfBoundsException, IllegalArgumentException {
        Answer one = answerOf(answer);
        Term term = termOf(slot);
        Term told = one.of(name);
        boolean isSame = told.isLike(term);
        told.becomeAs(term);
        return did(isSame ? 0 : 1);
    }

    public int take(int answer, int into) throws IndexOutOfBoundsException {
        Answer from = answerOf(answer);
        Answer to = answerOf(into);
        to.becomeAs(from);
        return did(to.movedCount());
    }

    public int behind(int answer, int next, int into) throws IndexOutOfBoundsException {
        Answer first = answerOf(answer);
        Answer then = answerOf(next);
        Answer to = answerOf(into);
        spareAnswer.becomeBoth(first, then);
        return putSpareAnswerInto(to);
    }

    public int alike(int one, int other, int answer, int how)
            throws IndexOutOfBoundsException, IllegalArgumentException {
        Term left = termOf(one);
        Term right = termOf(other);
        Answer to = answerOf(answer);
        if (how != 0 && how != 1) {
            throw new IllegalArgumentException("how is not 0 or 1");
        }
        boolean canBe = how == 0 ? bySteps.makeAlike(left, right) : byClasses.makeAlike(left, right);
        if (!canBe) {
            return did(NONE);
        }
        if (how == 0) {
            bySteps.tellInto(spareAnswer);
        } else {
            byClasses.tellInto(spareAnswer);
        }
        return putSpareAnswerInto(to);
    }

    public int match(int one, int onto, int answer) throws IndexOutOfBoundsException {
        Term from = termOf(one);
        Term goal = termOf(onto);
        Answer to = answerOf(answer);
        return spareAnswer.becomeMatch(from, goal) ? putSpareAnswerInto(to) : did(NONE);
    }

    // ---- what is asked of terms

    public String text(int slot) throws IndexOutOfBoundsException {
        return written(termOf(slot));
    }

    public int size(int slot) throws IndexOutOfBoundsException {
        return termOf(slot).length();
    }

    public int depth(int slot) throws IndexOutOfBoundsException {
        return termOf(slot).levels();
    }

    public int shared(int slot) throws IndexOutOfBoundsException {
        return termOf(slot).unlikePlaces();
    }

    public int letter(int slot, int place) throws IndexOutOfBoundsException {
        return termOf(slot).letterAt(place);
    }

    public int sizeAt(int slot, int place) throws IndexOutOfBoundsException {
        Term term = termOf(slot);
        return term.hasPlace(place) ? term.endOf(place) - place : REFUSED;
    }

    public int count(int slot, int name) throws IndexOutOfBoundsException, IllegalArgumentException {
        Term term = termOf(slot);
        needName(name);
        return term.placesOf(name);
    }

    public int names(int slot) throws IndexOutOfBoundsException {
        return termOf(slot).allNames();
    }

    public int find(int slot, int from) throws IndexOutOfBoundsException {
        Term whole = termOf(slot);
        Term sought = termOf(from);
        for (int i = 0; i < whole.length(); i++) {
            if (whole.isLikeAt(i, sought, 0)) {
                return i;
            }
        }
        return NONE;
    }

    public int differ(int one, int other) throws IndexOutOfBoundsException {
        Term left = termOf(one);
        Term right = termOf(other);
        // A place that only one of both has tells no letter in the other one, and so differs, too.
        for (int i = 0; i < left.length() || i < right.length(); i++) {
            if (left.letterAt(i) != right.letterAt(i)) {
                return i;
            }
        }
        return NONE;
    }

    public boolean is(int one, int other, int how) throws IndexOutOfBoundsException, IllegalArgumentException {
        Term left = termOf(one);
        Term right = termOf(other);
        if (how < 0 || how > 2) {
            throw new IllegalArgumentException("how is not 0 to 2");
        }
        if (how == 0) {
            return left.isLike(right);
        }
        if (how == 2) {
            return spareAnswer.becomeMatch(right, left);
        }
        spare.becomePlainOf(left);
        otherSpare.becomePlainOf(right);
        return spare.isLike(otherSpare);
    }

    public boolean can(int one, int other, int how) throws IndexOutOfBoundsException, IllegalArgumentException {
        Term left = termOf(one);
        Term right = termOf(other);
        if (how != 0 && how != 1) {
            throw new IllegalArgumentException("how is not 0 or 1");
        }
        return how == 0 ? bySteps.makeAlike(left, right) : byClasses.makeAlike(left, right);
    }

    public int steps(int one, int other) throws IndexOutOfBoundsException {
        Term left = termOf(one);
        Term right = termOf(other);
        bySteps.makeAlike(left, right);
        return bySteps.stepsTaken();
    }

    public int why(int one, int other) throws IndexOutOfBoundsException {
        Term left = termOf(one);
        Term right = termOf(other);
        bySteps.makeAlike(left, right);
        return bySteps.howEnded();
    }

    // ---- what is asked of answers

    public String told(int answer, int name) throws IndexOutOfBoundsException, IllegalArgumentException {
        return written(answerOf(answer).of(name));
    }

    public int moved(int answer) throws IndexOutOfBoundsException {
        return answerOf(answer).movedNames();
    }

    public boolean makes(int answer, int one, int other) throws IndexOutOfBoundsException {
        Answer used = answerOf(answer);
        Term left = termOf(one);
        Term right = termOf(other);
        return isMadeAlikeBy(used, left, right);
    }

    public boolean isSo(int answer, int how) throws IndexOutOfBoundsException, IllegalArgumentException {
        Answer one = answerOf(answer);
        if (how != 0 && how != 1) {
            throw new IllegalArgumentException("how is not 0 or 1");
        }
        if (how == 1) {
            return one.renamesOnly();
        }
        // Twice done may be too long for a term; it is another answer then.
        spareAnswer.becomeBoth(one, one);
        return !spareAnswer.isTooLong() && spareAnswer.firstUnlike(one) == NONE;
    }

    public int unlike(int answer, int other) throws IndexOutOfBoundsException {
        Answer one = answerOf(answer);
        Answer two = answerOf(other);
        return one.firstUnlike(two);
    }

    public int weight(int answer, boolean isShared) throws IndexOutOfBoundsException {
        Answer one = answerOf(answer);
        wide.empty();
        one.addMoved(wide);
        return isShared ? wide.unlikePlaces() : wide.length();
    }

    // ---- the whole

    public int house(int what) throws IllegalArgumentException {
        if (what < 0 || what > 4) {
            throw new IllegalArgumentException("what is not 0 to 4");
        }
        switch (what) {
            case 0:
                return done;
            case 1:
                return refused;
            case 2:
                return knocks;
            case 3:
                return sizesTogether();
            default:
                return movesTogether();
        }
    }

    public int knock() {
        knocks++;
        return knocks;
    }

    public boolean isSound() {
        Term one = slots[0];
        Term other = slots[1];
        boolean canBySteps = bySteps.makeAlike(one, other);
        boolean canByClasses = byClasses.makeAlike(one, other);
        if (canBySteps && canByClasses) {
            bySteps.tellInto(spareAnswer);
            byClasses.tellInto(otherAnswer);
        }
        return canBySteps == canByClasses
                && (!canBySteps || areAnswersSound(one, other))
                && isCommonSound(one, other)
                && isPlainSound(one)
                && areSizesSound();
    }

    public long digest() {
        long d = 8024;
        for (int k = 0; k < SLOTS; k++) {
            d = d * 31 + size(k);
            d = d * 31 + depth(k);
            d = d * 31 + shared(k);
            d = d * 31 + names(k);
            d = withLetters(d, slots[k]);
        }
        for (int k = 0; k < ANSWERS; k++) {
            d = withAnswer(d, answers[k]);
        }
        d = d * 31 + steps(0, 1);
        d = d * 31 + why(0, 1);
        for (int what = 0; what <= 4; what++) {
            d = d * 31 + house(what);
        }
        return d * 31 + (isSound() ? 1 : 0);
    }

    // ---- what the methods above have in common

    private Term termOf(int slot) {
        if (slot < 0 || slot >= SLOTS) {
            throw new IndexOutOfBoundsException("no such slot");
        }
        return slots[slot];
    }

    private Answer answerOf(int answer) {
        if (answer < 0 || answer >= ANSWERS) {
            throw new IndexOutOfBoundsException("no such answer");
        }
        return answers[answer];
    }

    private static void needName(int name) {
        if (!isName(name)) {
            throw new IllegalArgumentException("no such name");
        }
    }

    private int did(int told) {
        done++;
        return told;
    }

    private int refuse() {
        refused++;
        return REFUSED;
    }

    private int putSpareInto(Term term) {
        if (spare.isTooLong()) {
            return refuse();
        }
        term.becomeAs(spare);
        return did(term.length());
    }

    private int putSpareAnswerInto(Answer answer) {
        if (spareAnswer.isTooLong()) {
            return refuse();
        }
        answer.becomeAs(spareAnswer);
        return did(answer.movedCount());
    }

    private boolean isMadeAlikeBy(Answer answer, Term one, Term other) {
        wide.empty();
        answer.addUsed(one, 0, one.length(), wide);
        otherWide.empty();
        answer.addUsed(other, 0, other.length(), otherWide);
        return wide.isLike(otherWide);
    }

    private int sizesTogether() {
        int sum = 0;
        for (Term term : slots) {
            sum += term.length();
        }
        return sum;
    }

    private int movesTogether() {
        int sum = 0;
        for (Answer answer : answers) {
            sum += answer.movedCount();
        }
        return sum;
    }

    /** The answer by steps is in the one spare, that by classes in the other one. */
    private boolean areAnswersSound(Term one, Term other) {
        if (spareAnswer.isTooLong() && otherAnswer.isTooLong()) {
            return true;
        }
        return !spareAnswer.isTooLong()
                && !otherAnswer.isTooLong()
                && spareAnswer.firstUnlike(otherAnswer) == NONE
                && isMadeAlikeBy(spareAnswer, one, other);
    }

    private boolean isCommonSound(Term one, Term other) {
        return !shape.drawInto(one, other, spare)
                || (spareAnswer.becomeMatch(spare, one) && spareAnswer.becomeMatch(spare, other));
    }

    private boolean isPlainSound(Term term) {
        spare.becomePlainOf(term);
        return spareAnswer.becomeMatch(term, spare) && spareAnswer.becomeMatch(spare, term);
    }

    private boolean areSizesSound() {
        for (Term term : slots) {
            if (term.length() > MOST || term.unlikePlaces() > term.length()) {
                return false;
            }
        }
        return true;
    }

    private static long withLetters(long sum, Term term) {
        long d = sum;
        for (int i = 0; i < term.length(); i++) {
            d = d * 31 + term.letterAt(i);
        }
        return d;
    }

    private static long withAnswer(long sum, Answer answer) {
        long d = sum * 31 + answer.movedNames();
        for (int n = 0; n < NAMES; n++) {
            if (answer.moves(n)) {
                d = d * 31 + n;
                d = d * 31 + answer.of(n).length();
                d = withLetters(d, answer.of(n));
            }
        }
        return d;
    }

    private static boolean isName(int letter) {
        return letter >= 0 && letter < NAMES;
    }

    private static boolean isHead(int letter) {
        return letter >= HEAD_FROM && letter < HEAD_FROM + HEADS;
    }

    private static int partsOf(int letter) {
        return letter >= HEAD_FROM && letter < HEAD_FROM + PARTS.length ? PARTS[letter - HEAD_FROM] : 0;
    }

    private static char signOf(int letter) {
        boolean hasSign = letter >= HEAD_FROM && letter < HEAD_FROM + HEAD_SIGNS.length();
        return hasSign ? HEAD_SIGNS.charAt(letter - HEAD_FROM) : (char) ('a' + letter);
    }

    private static String written(Term term) {
        StringBuilder text = new StringBuilder();
        for (int i = 0; i < term.length(); i++) {
            int letter = term.letterAt(i);
            text.append(signOf(letter));
            if (partsOf(letter) > 0) {
                text.append('(');
            } else {
                int closed = term.closedBehind(i);
                for (int k = 0; k < closed; k++) {
                    text.append(')');
                }
                if (i + 1 < term.length()) {
                    text.append(',');
                }
            }
        }
        return text.toString();
    }

    /**
     * A row of letters as a text has them, without its brackets: how many parts a head has tells
     * where each part ends. A row with more letters than it has room for is too long, and no term.
     */
    private static final class Term {
        private final int[] letters;
        private int filled;
        private boolean tooLong;

        Term(int room) {
            letters = new int[Math.max(room, 0)];
        }

        void empty() {
            filled = 0;
            tooLong = false;
        }

        void add(int letter) {
            if (filled >= 0 && filled < letters.length) {
                letters[filled] = letter;
                filled++;
            } else {
                tooLong = true;
            }
        }

        void addRow(Term from, int start, int end) {
            for (int i = start; i < end; i++) {
                add(from.letterAt(i));
            }
        }

        void addTerm(Term from) {
            for (int i = 0; i < from.filled; i++) {
                add(from.letterAt(i));
            }
            tooLong = tooLong || from.tooLong;
        }

        void becomeName(int name) {
            empty();
            add(name);
        }

        void becomeAs(Term other) {
            if (other != this) {
                empty();
                addTerm(other);
            }
        }

        void becomePlainOf(Term other) {
            empty();
            for (int i = 0; i < other.filled; i++) {
                int letter = other.letterAt(i);
                // As many unlike names as stand before its first place come ahead of it.
                add(isName(letter)
                        ? Integer.bitCount(other.namesIn(0, other.firstPlaceOf(letter)))
                        : letter);
            }
        }

        int length() {
            return filled;
        }

        boolean isTooLong() {
            return tooLong;
        }

        boolean hasPlace(int place) {
            return place >= 0 && place < filled;
        }

        int letterAt(int place) {
            return place >= 0 && place < filled && place < letters.length ? letters[place] : REFUSED;
        }

        /** The place behind the term at a place. */
        int endOf(int place) {
            int due = 1;
            int end = place;
            for (; end < filled && due > 0; end++) {
                due += partsOf(letterAt(end)) - 1;
            }
            return end;
        }

        /** How many heads before a place have their last part end with it. */
        int closedBehind(int place) {
            int closed = 0;
            for (int i = 0; i < place; i++) {
                if (endOf(i) == place + 1) {
                    closed++;
                }
            }
            return closed;
        }

        int levels() {
            int level = 1;
            int most = 1;
            for (int i = 0; i < filled; i++) {
                most = Math.max(most, level);
                level += partsOf(letterAt(i)) > 0 ? 1 : -closedBehind(i);
            }
            return most;
        }

        boolean isLikeAt(int place, Term other, int otherPlace) {
            int due = 1;
            for (int k = 0; due > 0 && k < letters.length; k++) {
                int letter = letterAt(place + k);
                if (letter == REFUSED || letter != other.letterAt(otherPlace + k)) {
                    return false;
                }
                due += partsOf(letter) - 1;
            }
            return due == 0;
        }

        boolean isLike(Term other) {
            return isLikeAt(0, other, 0);
        }

        /** The first place at which the same stands as at this one. */
        int firstLike(int place) {
            for (int i = 0; i < place; i++) {
                if (isLikeAt(i, this, place)) {
                    return i;
                }
            }
            return place;
        }

        int unlikePlaces() {
            int unlike = 0;
            for (int i = 0; i < filled; i++) {
                if (firstLike(i) == i) {
                    unlike++;
                }
            }
            return unlike;
        }

        int firstPlaceOf(int letter) {
            for (int i = 0; i < filled; i++) {
                if (letterAt(i) == letter) {
                    return i;
                }
            }
            return NONE;
        }

        int placesOf(int letter) {
            int places = 0;
            for (int i = 0; i < filled; i++) {
                if (letterAt(i) == letter) {
                    places++;
                }
            }
            return places;
        }

        int namesIn(int start, int end) {
            int names = 0;
            for (int i = start; i < end; i++) {
                int letter = letterAt(i);
                if (isName(letter)) {
                    names |= 1 << letter;
                }
            }
            return names;
        }

        int allNames() {
            return namesIn(0, filled);
        }

        /** Two terms behind each other, so that a place of either is one number. */
        void becomeBoth(Term one, Term other) {
            empty();
            addTerm(one);
            addTerm(other);
        }
    }

    /** What is told of each name. */
    private static final class Answer {
        private final Term[] told = new Term[NAMES];

        Answer() {
            for (int n = 0; n < NAMES; n++) {
                told[n] = new Term(MOST);
                told[n].becomeName(n);
            }
        }

        Term of(int name) {
            if (!isName(name)) {
                throw new IllegalArgumentException("no such name");
            }
            return told[name];
        }

        boolean moves(int name) {
            return isName(name) && (told[name].length() != 1 || told[name].letterAt(0) != name);
        }

        int movedNames() {
            int names = 0;
            for (int n = 0; n < NAMES; n++) {
                if (moves(n)) {
                    names |= 1 << n;
                }
            }
            return names;
        }

        int movedCount() {
            return Integer.bitCount(movedNames());
        }

        void moveNone() {
            for (int n = 0; n < NAMES; n++) {
                told[n].becomeName(n);
            }
        }

        void becomeAs(Answer other) {
            for (int n = 0; n < NAMES; n++) {
                told[n].becomeAs(other.told[n]);
            }
        }

        /** This is neither of both. */
        void becomeBoth(Answer first, Answer then) {
            for (int n = 0; n < NAMES; n++) {
                told[n].empty();
                then.addUsed(first.told[n], 0, first.told[n].length(), told[n]);
            }
        }

        /** What comes of a row of letters, when this is used on it. */
        void addUsed(Term from, int start, int end, Term into) {
            for (int i = start; i < end; i++) {
                int letter = from.letterAt(i);
                if (isName(letter)) {
                    into.addTerm(told[letter]);
                } else {
                    into.add(letter);
                }
            }
        }

        void addMoved(Term into) {
            for (int n = 0; n < NAMES; n++) {
                if (moves(n)) {
                    into.addTerm(told[n]);
                }
            }
        }

        boolean isTooLong() {
            for (Term term : told) {
                if (term.isTooLong()) {
                    return true;
                }
            }
            return false;
        }

        int firstUnlike(Answer other) {
            for (int n = 0; n < NAMES; n++) {
                if (!told[n].isLike(other.told[n])) {
                    return n;
                }
            }
            return NONE;
        }

        boolean renamesOnly() {
            int names = 0;
            for (Term term : told) {
                if (term.length() == 1) {
                    names |= term.allNames();
                }
            }
            return Integer.bitCount(names) == NAMES;
        }

        /** Whether there is such an answer. */
        boolean becomeMatch(Term one, Term onto) {
            for (Term term : told) {
                term.empty();
            }
            int place = 0;
            boolean fits = true;
            for (int i = 0; i < one.length() && fits; i++) {
                int letter = one.letterAt(i);
                if (isName(letter)) {
                    if (told[letter].length() == 0) {
                        told[letter].addRow(onto, place, onto.endOf(place));
                    }
                    fits = told[letter].isLikeAt(0, onto, place);
                    place = onto.endOf(place);
                } else {
                    fits = letter == onto.letterAt(place);
                    place++;
                }
            }
            tellUntoldOfThemselves();
            return fits;
        }

        private void tellUntoldOfThemselves() {
            for (int n = 0; n < NAMES; n++) {
                if (told[n].length() == 0) {
                    told[n].becomeName(n);
                }
            }
        }

        /**
         * Tells of each name what it stands for, with all that names in that stand for. standsFor
         * has a place in both, or NONE; no name may stand within itself.
         */
        void becomeWholeOf(Term both, int[] standsFor) {
            int ready = 0;
            // Each round gets at least the names ready that stand only for what is ready.
            for (int round = 0; round < NAMES; round++) {
                for (int n = 0; n < NAMES && n < standsFor.length; n++) {
                    int place = standsFor[n];
                    int end = both.endOf(place);
                    if (place == NONE) {
                        told[n].becomeName(n);
                        ready |= 1 << n;
                    } else if ((ready >> n & 1) == 0 && (both.namesIn(place, end) & ~ready) == 0) {
                        told[n].empty();
                        addUsed(both, place, end, told[n]);
                        ready |= 1 << n;
                    }
                }
            }
        }
    }

    /** Pairs of places that wait, the next one last. */
    private static final class Pairs {
        /** Each pair lies within the one that left it waiting, so there are far fewer. */
        private static final int ROOM = 8 * MOST;

        private final int[] ones = new int[ROOM];
        private final int[] others = new int[ROOM];
        private int waiting;

        void empty() {
            waiting = 0;
        }

        int length() {
            return waiting;
        }

        void add(int one, int other) {
            if (waiting >= 0 && waiting < ROOM) {
                ones[waiting] = one;
                others[waiting] = other;
                waiting++;
            }
        }

        int oneAt(int spot) {
            return spot >= 0 && spot < waiting && spot < ROOM ? ones[spot] : NONE;
        }

        int otherAt(int spot) {
            return spot >= 0 && spot < waiting && spot < ROOM ? others[spot] : NONE;
        }

        void dropNext() {
            if (waiting > 0) {
                waiting--;
            }
        }

        /** The parts of two like heads, so that the first pair of them is the next one. */
        void addParts(Term both, int one, int other) {
            int parts = partsOf(both.letterAt(one));
            if (waiting < 0 || waiting + parts > ROOM) {
                return;
            }
            int onePart = one + 1;
            int otherPart = other + 1;
            for (int spot = waiting + parts - 1; spot >= waiting; spot--) {
                ones[spot] = onePart;
                others[spot] = otherPart;
                onePart = both.endOf(onePart);
                otherPart = both.endOf(otherPart);
            }
            waiting += parts;
        }
    }

    /** Two terms made alike by steps. */
    private static final class Steps {
        private final Term both = new Term(2 * MOST);
        private final int[] standsFor = new int[NAMES];
        private final Pairs pairs = new Pairs();
        private int taken;
        private int end;

        /** Whether they can be. */
        boolean makeAlike(Term one, Term other) {
            both.becomeBoth(one, other);
            Arrays.fill(standsFor, NONE);
            pairs.empty();
            pairs.add(0, one.length());
            taken = 0;
            end = 0;
            for (int k = 0; k < MANY && pairs.length() > 0 && end == 0; k++) {
                takeStep();
            }
            return end == 0;
        }

        /** The answer for the two that were last made alike. */
        void tellInto(Answer answer) {
            answer.becomeWholeOf(both, standsFor);
        }

        int stepsTaken() {
            return taken;
        }

        int howEnded() {
            return end;
        }

        private void takeStep() {
            taken++;
            int next = pairs.length() - 1;
            int one = lookedUp(pairs.oneAt(next));
            int other = lookedUp(pairs.otherAt(next));
            pairs.dropNext();
            int left = both.letterAt(one);
            int right = both.letterAt(other);
            if (isName(left) && isName(right)) {
                joinNames(one, other);
            } else if (isName(left)) {
                standFor(left, other);
            } else if (isName(right)) {
                standFor(right, one);
            } else if (left != right) {
                end = CLASH;
            } else {
                pairs.addParts(both, one, other);
            }
        }

        private int lookedUp(int place) {
            int at = place;
            for (int k = 0; k < NAMES; k++) {
                int letter = both.letterAt(at);
                if (!isName(letter) || standsFor[letter] == NONE) {
                    return at;
                }
                at = standsFor[letter];
            }
            return at;
        }

        private void joinNames(int one, int other) {
            int left = both.letterAt(one);
            int right = both.letterAt(other);
            if (isName(left) && left > right) {
                standsFor[left] = other;
            } else if (isName(right) && right > left) {
                standsFor[right] = one;
            }
        }

        private void standFor(int name, int place) {
            int within = both.namesIn(place, both.endOf(place));
            // A name may stand for one that came before it in this loop: so as often as there are names.
            for (int round = 0; round < NAMES; round++) {
                for (int n = 0; n < NAMES; n++) {
                    if ((within >> n & 1) == 1 && standsFor[n] != NONE) {
                        within |= both.namesIn(standsFor[n], both.endOf(standsFor[n]));
                    }
                }
            }
            if ((within >> name & 1) == 1) {
                end = WITHIN;
            } else if (isName(name)) {
                standsFor[name] = place;
            }
        }
    }

    /** Two terms made alike by classes; a class is named by one of its places. */
    private static final class Classes {
        private static final int PLACES = 2 * MOST;

        private final Term both = new Term(PLACES);
        private final int[] classOf = new int[PLACES];
        /** Of each class a place with a head, or NONE. */
        private final int[] headOf = new int[PLACES];
        private final int[] standsFor = new int[NAMES];
        private final Pairs pairs = new Pairs();

        /** Whether they can be. */
        boolean makeAlike(Term one, Term other) {
            both.becomeBoth(one, other);
            for (int i = 0; i < PLACES; i++) {
                classOf[i] = both.firstLike(i);
                headOf[i] = isHead(both.letterAt(i)) ? i : NONE;
            }
            pairs.empty();
            pairs.add(0, one.length());
            boolean canBe = true;
            for (int k = 0; k < MANY && canBe && pairs.length() > 0; k++) {
                int next = pairs.length() - 1;
                int left = classAt(pairs.oneAt(next));
                int right = classAt(pairs.otherAt(next));
                pairs.dropNext();
                canBe = left == right || join(left, right);
            }
            return canBe && isNoneInItself();
        }

        /** The answer for the two that were last made alike. */
        void tellInto(Answer answer) {
            for (int n = 0; n < NAMES; n++) {
                standsFor[n] = placeFor(n);
            }
            answer.becomeWholeOf(both, standsFor);
        }

        private int classAt(int place) {
            return place >= 0 && place < PLACES ? classOf[place] : NONE;
        }

        private int headAt(int group) {
            return group >= 0 && group < PLACES ? headOf[group] : NONE;
        }

        /** Whether no two unlike heads come together. */
        private boolean join(int left, int right) {
            int one = headAt(left);
            int other = headAt(right);
            if (one != NONE && other != NONE) {
                if (both.letterAt(one) != both.letterAt(other)) {
                    return false;
                }
                pairs.addParts(both, one, other);
            }
            for (int i = 0; i < PLACES; i++) {
                if (classOf[i] == right) {
                    classOf[i] = left;
                }
            }
            if (left >= 0 && left < PLACES && one == NONE) {
                headOf[left] = other;
            }
            return true;
        }

        /** A class is clear when those of all its parts are; in a ring none ever is. */
        private boolean isNoneInItself() {
            long clear = 0;
            int places = Math.min(both.length(), PLACES);
            int unclear = places;
            for (int round = 0; round < PLACES && unclear > 0; round++) {
                unclear = 0;
                for (int i = 0; i < places; i++) {
                    if (isClear(classOf[i], clear)) {
                        clear |= 1L << classOf[i];
                    } else {
                        unclear++;
                    }
                }
            }
            return unclear == 0;
        }

        private boolean isClear(int group, long clear) {
            int head = headAt(group);
            if (head == NONE) {
                return true;
            }
            int part = head + 1;
            for (int k = partsOf(both.letterAt(head)); k > 0; k--) {
                if ((clear >> classAt(part) & 1) == 0) {
                    return false;
                }
                part = both.endOf(part);
            }
            return true;
        }

        private int placeFor(int name) {
            int place = both.firstPlaceOf(name);
            int group = classAt(place);
            if (place == NONE || headAt(group) != NONE) {
                return headAt(group);
            }
            int least = place;
            for (int i = 0; i < both.length() && i < PLACES; i++) {
                if (classOf[i] == group && both.letterAt(i) < both.letterAt(least)) {
                    least = i;
                }
            }
            return both.letterAt(least) == name ? NONE : least;
        }
    }

    /** What two terms have in common. */
    private static final class Shape {
        /** The pairs that got a name, each at the spot of its name's number. */
        private final Pairs named = new Pairs();

        /** Whether the names suffice for it. */
        boolean drawInto(Term one, Term other, Term into) {
            named.empty();
            into.empty();
            int left = 0;
            int right = 0;
            for (int k = 0; k < MOST && left < one.length(); k++) {
                int letter = one.letterAt(left);
                if (isHead(letter) && letter == other.letterAt(right)) {
                    into.add(letter);
                    left++;
                    right++;
                } else {
                    into.add(nameFor(one, left, other, right));
                    left = one.endOf(left);
                    right = other.endOf(right);
                }
            }
            return named.length() <= NAMES;
        }

        private int nameFor(Term one, int left, Term other, int right) {
            for (int k = 0; k < named.length(); k++) {
                if (one.isLikeAt(named.oneAt(k), one, left) && other.isLikeAt(named.otherAt(k), other, right)) {
                    return k;
                }
            }
            named.add(left, right);
            return named.length() - 1;
        }
    }
}
