/** A stack language that draws on a page of 24 by 24 dots; ../shared/DOC.md says what each call must answer. */
public final class StackRaster {
    public static final int OK = 0;
    public static final int INCOMPLETE = -1;

    private static final int MAX_TOKENS = 100;
    private static final int MAX_VALUES = 24;
    private static final int MAX_PROCEDURES = 12;
    private static final int MAX_STEPS = 600;
    private static final int MAX_POINTS = 48;
    private static final int MAX_COPIES = 4;
    private static final int MAX_COORDINATE = 200;
    private static final int MAX_FACTOR = 64;
    private static final int MAX_SCALE = 4;
    private static final int MAX_GRAY = 3;
    private static final int MAX_WIDTH = 6;
    private static final int VARIABLES = 8;
    private static final int SIZE = 24;
    private static final int ALL_DOTS = SIZE * SIZE;
    private static final int FULL_ROW = (1 << SIZE) - 1;
    private static final int CURVE_LINES = 8;
    private static final int BOX_CORNERS = 4;

    private static final int TOKEN_NUMBER = 0;
    private static final int TOKEN_OPERATOR = 1;
    private static final int TOKEN_OPEN = 2;
    private static final int TOKEN_CLOSE = 3;
    private static final int TOKEN_LOAD = 4;
    private static final int TOKEN_STORE = 5;

    private static final int NUMBER = 0;
    private static final int PROCEDURE = 1;

    private static final int ADD = 0;
    private static final int SUB = 1;
    private static final int MUL = 2;
    private static final int DIV = 3;
    private static final int MOD = 4;
    private static final int NEG = 5;
    private static final int LT = 6;
    private static final int EQ = 7;
    private static final int POP = 8;
    private static final int DUP = 9;
    private static final int EXCH = 10;
    private static final int INDEX = 11;
    private static final int COUNT = 12;
    private static final int CLEAR = 13;
    private static final int EXEC = 14;
    private static final int IF = 15;
    private static final int IFELSE = 16;
    private static final int REPEAT = 17;
    private static final int FOR = 18;
    private static final int LOOP = 19;
    private static final int EXIT = 20;
    private static final int GSAVE = 21;
    private static final int GRESTORE = 22;
    private static final int TRANSLATE = 23;
    private static final int SCALE = 24;
    private static final int TURN = 25;
    private static final int GRAY = 26;
    private static final int WIDTH = 27;
    private static final int NEWPATH = 28;
    private static final int MOVETO = 29;
    private static final int LINETO = 30;
    private static final int RMOVETO = 31;
    private static final int RLINETO = 32;
    private static final int CURVETO = 33;
    private static final int CLOSE = 34;
    private static final int POINT = 35;
    private static final int FILL = 36;
    private static final int EOFILL = 37;
    private static final int STROKE = 38;
    private static final int CLIP = 39;
    private static final int EOCLIP = 40;
    private static final int INITCLIP = 41;
    private static final int WIPE = 42;
    private static final int DOT = 43;
    private static final int BOX = 44;

    private static final int TOO_FEW_VALUES = 1;
    private static final int TOO_MANY_VALUES = 2;
    private static final int WRONG_KIND = 3;
    private static final int ZERO_DIVISOR = 4;
    private static final int OFF_LIMITS = 5;
    private static final int NO_CURRENT_POINT = 6;
    private static final int TOO_MUCH_KEPT = 7;
    private static final int EXIT_OUTSIDE = 8;
    private static final int TOO_DEEP = 9;
    private static final int OUT_OF_RANGE = 10;
    private static final int OUT_OF_STEPS = 11;
    private static final int ZERO_STRIDE = 12;

    private static final int ONCE = 0;
    private static final int COUNTED = 1;
    private static final int COUNTED_AND_PUT = 2;
    private static final int ENDLESS = 3;

    private static final int BEGINS = 1;
    private static final int CLOSED = 2;

    private static final int SAVED_NUMBERS = 7;
    private static final int ALL_SAVED_NUMBERS = MAX_COPIES * SAVED_NUMBERS;
    private static final int ALL_SAVED_POINTS = MAX_COPIES * MAX_POINTS;
    private static final int ALL_SAVED_ROWS = MAX_COPIES * SIZE;
    private static final int NO_CORNER = -1000;

    private final int[] tokenKind = new int[MAX_TOKENS];
    private final int[] tokenValue = new int[MAX_TOKENS];
    private final int[] closingBrace = new int[MAX_TOKENS];
    private int tokenCount = 0;
    private int openBraces = 0;

    private int position;
    private int stepsUsed;
    private int errorPlace;

    private final int[] stackKind = new int[MAX_VALUES];
    private final int[] stackValue = new int[MAX_VALUES];
    private int stackDepth;
    private final int[] variableKind = new int[VARIABLES];
    private final int[] variableValue = new int[VARIABLES];

    private final int[] begunProcedure = new int[MAX_PROCEDURES];
    private final int[] begunReturn = new int[MAX_PROCEDURES];
    private final int[] begunHow = new int[MAX_PROCEDURES];
    private final int[] begunNow = new int[MAX_PROCEDURES];
    private final int[] begunStride = new int[MAX_PROCEDURES];
    private final int[] begunLast = new int[MAX_PROCEDURES];
    private int begunCount;

    // Turns and even scales are all there is, so two numbers hold the matrix: x' = a x - b y, y' = b x + a y.
    private int mapA;
    private int mapB;
    private int originX;
    private int originY;
    private int gray;
    private int width;
    private final int[] pointX = new int[MAX_POINTS];
    private final int[] pointY = new int[MAX_POINTS];
    private final int[] pointMark = new int[MAX_POINTS];
    private int pointCount;
    private final int[] clipRow = new int[SIZE];

    private final int[] savedNumber = new int[ALL_SAVED_NUMBERS];
    private final int[] savedX = new int[ALL_SAVED_POINTS];
    private final int[] savedY = new int[ALL_SAVED_POINTS];
    private final int[] savedMark = new int[ALL_SAVED_POINTS];
    private final int[] savedClip = new int[ALL_SAVED_ROWS];
    private int savedCount;

    private final int[] dotGray = new int[ALL_DOTS];

    public StackRaster() {
        beginRun();
    }

    public boolean token(int kind, int value) {
        if (tokenCount >= MAX_TOKENS || !isToken(kind, value)) {
            return false;
        }
        if (kind == TOKEN_CLOSE && openBraces == 0) {
            return false;
        }
        tokenKind[tokenCount] = kind;
        tokenValue[tokenCount] = value;
        closingBrace[tokenCount] = -1;
        if (kind == TOKEN_OPEN) {
            openBraces++;
        }
        if (kind == TOKEN_CLOSE) {
            closeLatestBrace();
        }
        tokenCount++;
        return true;
    }

    public int drop() {
        int dropped = tokenCount;
        tokenCount = 0;
        openBraces = 0;
        return dropped;
    }

    public int run() {
        if (openBraces > 0) {
            return INCOMPLETE;
        }
        beginRun();
        int error = OK;
        for (int i = 0; i <= MAX_STEPS && error == OK && position < tokenCount; i++) {
            int at = position;
            error = i < MAX_STEPS ? execute(at) : OUT_OF_STEPS;
            if (error != OK) {
                errorPlace = at;
            }
        }
        return error;
    }

    public int place() {
        return errorPlace;
    }

    public int steps() {
        return stepsUsed;
    }

    public int depth() {
        return stackDepth;
    }

    public int kind(int k) {
        return k >= 0 && k < stackDepth ? stackKind[stackDepth - 1 - k] : -1;
    }

    public int value(int k) {
        return k >= 0 && k < stackDepth ? stackValue[stackDepth - 1 - k] : 0;
    }

    public int dot(int i, int j) {
        return grayAt(i, j);
    }

    public int count(int g) {
        int found = 0;
        for (int k = 0; k < ALL_DOTS; k++) {
            if (dotGray[k] == g) {
                found++;
            }
        }
        return found;
    }

    public int clip(int j) {
        return j >= 0 && j < SIZE ? clipRow[j] : 0;
    }

    public int points() {
        return pointCount;
    }

    public int corner(int k, int what) {
        if (k < 0 || k >= pointCount) {
            return NO_CORNER;
        }
        switch (what) {
            case 0:
                return pointX[k];
            case 1:
                return pointY[k];
            case 2:
                return pointMark[k];
            default:
                return NO_CORNER;
        }
    }

    private static boolean isToken(int kind, int value) {
        switch (kind) {
            case TOKEN_NUMBER:
            case TOKEN_OPEN:
            case TOKEN_CLOSE:
                return true;
            case TOKEN_OPERATOR:
                return value >= ADD && value <= BOX;
            case TOKEN_LOAD:
            case TOKEN_STORE:
                return value >= 0 && value < VARIABLES;
            default:
                return false;
        }
    }

    private void closeLatestBrace() {
        for (int k = tokenCount - 1; k >= 0; k--) {
            if (tokenKind[k] == TOKEN_OPEN && closingBrace[k] < 0) {
                closingBrace[k] = tokenCount;
                openBraces--;
                return;
            }
        }
    }

    private void beginRun() {
        position = 0;
        stepsUsed = 0;
        errorPlace = -1;
        stackDepth = 0;
        begunCount = 0;
        savedCount = 0;
        for (int v = 0; v < VARIABLES; v++) {
            variableKind[v] = NUMBER;
            variableValue[v] = 0;
        }
        mapA = 1;
        mapB = 0;
        originX = 0;
        originY = 0;
        gray = 0;
        width = 2;
        pointCount = 0;
        openClip();
    }

    /** Behind an error the run is over, so where the position then stands does not matter. */
    private int execute(int at) {
        stepsUsed++;
        position = at + 1;
        if (tokenKind[at] != TOKEN_OPERATOR) {
            return executePlain(at);
        }
        int op = tokenValue[at];
        int error = operandError(op);
        if (error != OK) {
            return error;
        }
        if (op <= EQ) {
            return calculate(op);
        }
        if (op <= CLEAR || op == POINT || op == DOT) {
            return rearrange(op);
        }
        if (op <= EXIT) {
            return control(op);
        }
        if (op <= NEWPATH || op == INITCLIP || op == WIPE) {
            error = changeState(op);
        } else if (op <= CLOSE || op == BOX) {
            error = changePath(op);
        } else {
            paint(op);
        }
        if (error == OK) {
            stackDepth -= takenBy(op);
        }
        return error;
    }

    private int executePlain(int at) {
        int value = tokenValue[at];
        switch (tokenKind[at]) {
            case TOKEN_NUMBER:
                return put(NUMBER, value);
            case TOKEN_OPEN:
                position = closingBrace[at] + 1;
                return put(PROCEDURE, at);
            case TOKEN_CLOSE:
                return endProcedure();
            case TOKEN_LOAD:
                return put(variableKind[value], variableValue[value]);
            default:
                return store(value);
        }
    }

    private int put(int kind, int value) {
        if (stackDepth >= MAX_VALUES) {
            return TOO_MANY_VALUES;
        }
        stackKind[stackDepth] = kind;
        stackValue[stackDepth] = value;
        stackDepth++;
        return OK;
    }

    private int store(int variable) {
        if (stackDepth < 1) {
            return TOO_FEW_VALUES;
        }
        stackDepth--;
        variableKind[variable] = stackKind[stackDepth];
        variableValue[variable] = stackValue[stackDepth];
        return OK;
    }

    private int take(int taken) {
        stackDepth -= taken;
        return OK;
    }

    private int operand(int k) {
        int at = stackDepth - 1 - k;
        return at >= 0 && at < MAX_VALUES ? stackValue[at] : 0;
    }

    private int operandKind(int k) {
        int at = stackDepth - 1 - k;
        return at >= 0 && at < MAX_VALUES ? stackKind[at] : -1;
    }

    private static int takenBy(int op) {
        switch (op) {
            case CURVETO:
                return 6;
            case FOR:
            case BOX:
                return 4;
            case IFELSE:
                return 3;
            case ADD:
            case SUB:
            case MUL:
            case DIV:
            case MOD:
            case LT:
            case EQ:
            case EXCH:
            case IF:
            case REPEAT:
            case TRANSLATE:
            case MOVETO:
            case LINETO:
            case RMOVETO:
            case RLINETO:
            case DOT:
                return 2;
            case NEG:
            case POP:
            case DUP:
            case INDEX:
            case EXEC:
            case LOOP:
            case SCALE:
            case GRAY:
            case WIDTH:
                return 1;
            default:
                return 0;
        }
    }

    /** Where an operator takes procedures, they are the topmost of what it takes. */
    private static int proceduresTakenBy(int op) {
        switch (op) {
            case IFELSE:
                return 2;
            case EXEC:
            case IF:
            case REPEAT:
            case FOR:
            case LOOP:
                return 1;
            default:
                return 0;
        }
    }

    private static boolean takesAnyKind(int op) {
        return op == EQ || op == POP || op == DUP || op == EXCH;
    }

    private static int putBy(int op) {
        if (op <= EQ || op == INDEX || op == COUNT || op == DOT) {
            return 1;
        }
        return op == DUP || op == EXCH || op == POINT ? 2 : 0;
    }

    /** The errors that are tested before all others, in the document's order. */
    private int operandError(int op) {
        int taken = takenBy(op);
        if (stackDepth < taken) {
            return TOO_FEW_VALUES;
        }
        int procedures = proceduresTakenBy(op);
        boolean anyKind = takesAnyKind(op);
        for (int k = 0; k < taken && !anyKind; k++) {
            int wanted = k < procedures ? PROCEDURE : NUMBER;
            if (operandKind(k) != wanted) {
                return WRONG_KIND;
            }
        }
        if (op >= LINETO && op <= POINT && pointCount == 0) {
            return NO_CURRENT_POINT;
        }
        int left = stackDepth - taken;
        return left + putBy(op) > MAX_VALUES ? TOO_MANY_VALUES : OK;
    }

    private int calculate(int op) {
        int x = operand(1);
        int y = operand(0);
        int result = 0;
        switch (op) {
            case ADD:
                result = x + y;
                break;
            case SUB:
                result = x - y;
                break;
            case MUL:
                result = x * y;
                break;
            case DIV:
                if (y == 0) {
                    return ZERO_DIVISOR;
                }
                result = x / y;
                break;
            case MOD:
                if (y == 0) {
                    return ZERO_DIVISOR;
                }
                result = x % y;
                break;
            case NEG:
                result = -y;
                break;
            case LT:
                result = x < y ? 1 : 0;
                break;
            default:
                result = x == y && operandKind(1) == operandKind(0) ? 1 : 0;
                break;
        }
        stackDepth -= takenBy(op);
        return put(NUMBER, result);
    }

    private int rearrange(int op) {
        switch (op) {
            case POP:
                return take(1);
            case DUP:
                return copyDown(0, 0);
            case EXCH:
                return exchange();
            case INDEX:
                return copyIndexed();
            case COUNT:
                return put(NUMBER, stackDepth);
            case CLEAR:
                return take(stackDepth);
            case POINT:
                return putCurrentPoint();
            default:
                return putGray();
        }
    }

    /** Takes some values off and then puts a copy of the one that lay k below the topmost. */
    private int copyDown(int k, int taken) {
        int kind = operandKind(k);
        int value = operand(k);
        stackDepth -= taken;
        return put(kind, value);
    }

    private int exchange() {
        int lowerKind = operandKind(1);
        int lower = operand(1);
        int upperKind = operandKind(0);
        int upper = operand(0);
        stackDepth -= 2;
        put(upperKind, upper);
        return put(lowerKind, lower);
    }

    private int copyIndexed() {
        int n = operand(0);
        if (n < 0 || n >= stackDepth - 1) {
            return OUT_OF_RANGE;
        }
        return copyDown(n + 1, 1);
    }

    private int putCurrentPoint() {
        int at = currentPoint();
        int x = pointX[at] - originX;
        int y = pointY[at] - originY;
        int signA = signOf(mapA);
        int signB = signOf(mapB);
        int userX = dividedByFactor(signA * x + signB * y);
        int userY = dividedByFactor(signA * y - signB * x);
        put(NUMBER, userX);
        return put(NUMBER, userY);
    }

    private int putGray() {
        int i = operand(1);
        int j = operand(0);
        int found = grayAt(i, j);
        stackDepth -= 2;
        return put(NUMBER, found);
    }

    private int grayAt(int i, int j) {
        boolean isThere = i >= 0 && i < SIZE && j >= 0 && j < SIZE;
        return isThere ? dotGray[j * SIZE + i] : -1;
    }

    private int control(int op) {
        int top = operand(0);
        int second = operand(1);
        int third = operand(2);
        switch (op) {
            case EXEC:
                return begin(1, top, ONCE, 0, 0, 0);
            case IF:
                return second != 0 ? begin(2, top, ONCE, 0, 0, 0) : take(2);
            case IFELSE:
                return begin(3, third != 0 ? second : top, ONCE, 0, 0, 0);
            case REPEAT:
                return second >= 1 ? begin(2, top, COUNTED, second, -1, 1) : take(2);
            case FOR:
                return beginFor();
            case LOOP:
                return begin(1, top, ENDLESS, 0, 0, 0);
            default:
                return leaveLoop();
        }
    }

    private int beginFor() {
        int start = operand(3);
        int stride = operand(2);
        int last = operand(1);
        int procedure = operand(0);
        if (stride == 0) {
            return ZERO_STRIDE;
        }
        if (!isReached(start, stride, last)) {
            return take(4);
        }
        return begin(4, procedure, COUNTED_AND_PUT, start, stride, last);
    }

    /** A long that has left the ints is always beyond the last number, which is an int. */
    private static boolean isReached(long number, int stride, int last) {
        return stride > 0 ? number <= last : number >= last;
    }

    private int begin(int taken, int procedure, int how, int now, int stride, int last) {
        if (begunCount >= MAX_PROCEDURES) {
            return TOO_DEEP;
        }
        begunProcedure[begunCount] = procedure;
        begunReturn[begunCount] = position;
        begunHow[begunCount] = how;
        begunNow[begunCount] = now;
        begunStride[begunCount] = stride;
        begunLast[begunCount] = last;
        begunCount++;
        position = procedure + 1;
        stackDepth -= taken;
        return how == COUNTED_AND_PUT ? put(NUMBER, now) : OK;
    }

    private int endProcedure() {
        int at = begunCount - 1;
        if (at < 0) {
            return OK;
        }
        int how = begunHow[at];
        int stride = begunStride[at];
        long next = (long) begunNow[at] + stride;
        boolean isCounted = how == COUNTED || how == COUNTED_AND_PUT;
        boolean goesOn = isCounted ? isReached(next, stride, begunLast[at]) : how == ENDLESS;
        if (!goesOn) {
            begunCount = at;
            position = begunReturn[at];
            return OK;
        }
        int number = (int) next;
        begunNow[at] = number;
        position = begunProcedure[at] + 1;
        return how == COUNTED_AND_PUT ? put(NUMBER, number) : OK;
    }

    private int leaveLoop() {
        for (int at = begunCount - 1; at >= 0; at--) {
            if (begunHow[at] != ONCE) {
                begunCount = at;
                position = begunReturn[at];
                return OK;
            }
        }
        return EXIT_OUTSIDE;
    }

    private int changeState(int op) {
        int n = operand(0);
        switch (op) {
            case GSAVE:
                return saveState();
            case GRESTORE:
                restoreState();
                return OK;
            case TRANSLATE:
                return moveOrigin();
            case SCALE:
                return scaleMap(n);
            case TURN:
                turnMap();
                return OK;
            case GRAY:
                if (n < 0 || n > MAX_GRAY) {
                    return OUT_OF_RANGE;
                }
                gray = n;
                return OK;
            case WIDTH:
                if (n < 1 || n > MAX_WIDTH) {
                    return OUT_OF_RANGE;
                }
                width = n;
                return OK;
            case NEWPATH:
                pointCount = 0;
                return OK;
            case INITCLIP:
                openClip();
                return OK;
            default:
                wipePage();
                return OK;
        }
    }

    private int saveState() {
        if (savedCount >= MAX_COPIES) {
            return TOO_MUCH_KEPT;
        }
        int numbers = savedCount * SAVED_NUMBERS;
        savedNumber[numbers] = mapA;
        savedNumber[numbers + 1] = mapB;
        savedNumber[numbers + 2] = originX;
        savedNumber[numbers + 3] = originY;
        savedNumber[numbers + 4] = gray;
        savedNumber[numbers + 5] = width;
        savedNumber[numbers + 6] = pointCount;
        for (int k = 0; k < MAX_POINTS; k++) {
            int at = savedCount * MAX_POINTS + k;
            savedX[at] = pointX[k];
            savedY[at] = pointY[k];
            savedMark[at] = pointMark[k];
        }
        for (int j = 0; j < SIZE; j++) {
            savedClip[savedCount * SIZE + j] = clipRow[j];
        }
        savedCount++;
        return OK;
    }

    private void restoreState() {
        if (savedCount < 1) {
            return;
        }
        savedCount--;
        int numbers = savedCount * SAVED_NUMBERS;
        mapA = savedNumber[numbers];
        mapB = savedNumber[numbers + 1];
        originX = savedNumber[numbers + 2];
        originY = savedNumber[numbers + 3];
        gray = savedNumber[numbers + 4];
        width = savedNumber[numbers + 5];
        pointCount = savedNumber[numbers + 6];
        for (int k = 0; k < MAX_POINTS; k++) {
            int at = savedCount * MAX_POINTS + k;
            pointX[k] = savedX[at];
            pointY[k] = savedY[at];
            pointMark[k] = savedMark[at];
        }
        for (int j = 0; j < SIZE; j++) {
            clipRow[j] = savedClip[savedCount * SIZE + j];
        }
    }

    private int moveOrigin() {
        long x = operandDeviceX(0);
        long y = operandDeviceY(0);
        if (isOffLimits(x, y)) {
            return OFF_LIMITS;
        }
        originX = (int) x;
        originY = (int) y;
        return OK;
    }

    private int scaleMap(int n) {
        if (n < 1 || n > MAX_SCALE) {
            return OUT_OF_RANGE;
        }
        if (factor() * n > MAX_FACTOR) {
            return OFF_LIMITS;
        }
        mapA *= n;
        mapB *= n;
        return OK;
    }

    private void turnMap() {
        int formerA = mapA;
        mapA = -mapB;
        mapB = formerA;
    }

    private void openClip() {
        for (int j = 0; j < SIZE; j++) {
            clipRow[j] = FULL_ROW;
        }
    }

    private void wipePage() {
        for (int k = 0; k < ALL_DOTS; k++) {
            dotGray[k] = 0;
        }
    }

    /** One of the two is 0, as all turns are by quarters. */
    private int factor() {
        int sum = mapA + mapB;
        return sum < 0 ? -sum : sum;
    }

    private static int signOf(int n) {
        if (n == 0) {
            return 0;
        }
        return n < 0 ? -1 : 1;
    }

    private int dividedByFactor(int n) {
        int divisor = factor();
        if (divisor == 0) {
            return 0;
        }
        int quotient = n / divisor;
        return n % divisor < 0 ? quotient - 1 : quotient;
    }

    // Longs, so that no user coordinate can wrap into the page before the limits are tested.
    private long deviceX(long x, long y) {
        return mapA * x - mapB * y + originX;
    }

    private long deviceY(long x, long y) {
        return mapB * x + mapA * y + originY;
    }

    /** Of the point whose y lies k below the topmost value, with its x under it. */
    private long operandDeviceX(int k) {
        long x = operand(k + 1);
        long y = operand(k);
        return deviceX(x, y);
    }

    private long operandDeviceY(int k) {
        long x = operand(k + 1);
        long y = operand(k);
        return deviceY(x, y);
    }

    private static boolean isOffLimits(long x, long y) {
        boolean isOffX = x < -MAX_COORDINATE || x > MAX_COORDINATE;
        boolean isOffY = y < -MAX_COORDINATE || y > MAX_COORDINATE;
        return isOffX || isOffY;
    }

    private int changePath(int op) {
        long x = operandDeviceX(0);
        long y = operandDeviceY(0);
        if (op == RMOVETO || op == RLINETO) {
            int at = currentPoint();
            x += pointX[at] - originX;
            y += pointY[at] - originY;
        }
        switch (op) {
            case MOVETO:
            case RMOVETO:
                return moveTo(x, y);
            case LINETO:
            case RLINETO:
                return lineTo(x, y);
            case CURVETO:
                return curveTo();
            case CLOSE:
                closePath();
                return OK;
            default:
                return drawBox();
        }
    }

    private int moveTo(long x, long y) {
        int at = pointCount;
        // A last point that begins an open subpath is a moveto with nothing drawn from it yet.
        if (at > 0 && pointMark[at - 1] == BEGINS) {
            at--;
        }
        if (at >= MAX_POINTS) {
            return TOO_MUCH_KEPT;
        }
        if (isOffLimits(x, y)) {
            return OFF_LIMITS;
        }
        pointCount = at;
        append(x, y, BEGINS);
        return OK;
    }

    private int lineTo(long x, long y) {
        boolean isClosed = isLastClosed();
        if (pointCount + (isClosed ? 2 : 1) > MAX_POINTS) {
            return TOO_MUCH_KEPT;
        }
        if (isOffLimits(x, y)) {
            return OFF_LIMITS;
        }
        if (isClosed) {
            int at = lastSubpath();
            append(pointX[at], pointY[at], BEGINS);
        }
        append(x, y, 0);
        return OK;
    }

    private int curveTo() {
        boolean isClosed = isLastClosed();
        if (pointCount + CURVE_LINES + (isClosed ? 1 : 0) > MAX_POINTS) {
            return TOO_MUCH_KEPT;
        }
        long ax = operandDeviceX(4);
        long ay = operandDeviceY(4);
        long bx = operandDeviceX(2);
        long by = operandDeviceY(2);
        long cx = operandDeviceX(0);
        long cy = operandDeviceY(0);
        if (isOffLimits(ax, ay) || isOffLimits(bx, by) || isOffLimits(cx, cy)) {
            return OFF_LIMITS;
        }
        int at = currentPoint();
        int px = pointX[at];
        int py = pointY[at];
        if (isClosed) {
            append(px, py, BEGINS);
        }
        for (int k = 1; k <= CURVE_LINES; k++) {
            long x = curveAt(k, px, ax, bx, cx);
            long y = curveAt(k, py, ay, by, cy);
            append(x, y, 0);
        }
        return OK;
    }

    /** The shift divides by 512 and rounds down, below 0 too. */
    private static long curveAt(int k, long p, long a, long b, long c) {
        int rest = CURVE_LINES - k;
        long sum = rest * rest * rest * p + 3 * k * rest * rest * a + 3 * k * k * rest * b + k * k * k * c;
        return (sum + 256) >> 9;
    }

    private void closePath() {
        for (int k = lastSubpath(); k < pointCount; k++) {
            pointMark[k] |= CLOSED;
        }
    }

    private int drawBox() {
        for (int k = 0; k < BOX_CORNERS; k++) {
            long x = boxX(k);
            long y = boxY(k);
            long toX = deviceX(x, y);
            long toY = deviceY(x, y);
            if (isOffLimits(toX, toY)) {
                return OFF_LIMITS;
            }
        }
        pointCount = 0;
        for (int k = 0; k < BOX_CORNERS; k++) {
            long x = boxX(k);
            long y = boxY(k);
            long toX = deviceX(x, y);
            long toY = deviceY(x, y);
            append(toX, toY, k == 0 ? BEGINS | CLOSED : CLOSED);
        }
        return OK;
    }

    private long boxX(int k) {
        long x = operand(3);
        return k == 1 || k == 2 ? x + operand(1) : x;
    }

    private long boxY(int k) {
        long y = operand(2);
        return k >= 2 ? y + operand(0) : y;
    }

    private void append(long x, long y, int mark) {
        if (pointCount >= MAX_POINTS) {
            return;
        }
        pointX[pointCount] = (int) x;
        pointY[pointCount] = (int) y;
        pointMark[pointCount] = mark;
        pointCount++;
    }

    private boolean isLastClosed() {
        return pointCount > 0 && (pointMark[pointCount - 1] & CLOSED) != 0;
    }

    private int currentPoint() {
        return pointCount == 0 || isLastClosed() ? lastSubpath() : pointCount - 1;
    }

    private int lastSubpath() {
        for (int k = pointCount - 1; k > 0; k--) {
            if ((pointMark[k] & BEGINS) != 0) {
                return k;
            }
        }
        return 0;
    }

    private void paint(int op) {
        for (int j = 0; j < SIZE; j++) {
            int covered = op == STROKE ? strokedRow(j) : insideRow(j, op == EOFILL || op == EOCLIP);
            if (op == CLIP || op == EOCLIP) {
                clipRow[j] &= covered;
            } else {
                paintRow(j, covered & clipRow[j]);
            }
        }
        if (op != CLIP && op != EOCLIP) {
            pointCount = 0;
        }
    }

    private void paintRow(int j, int covered) {
        for (int i = 0; i < SIZE; i++) {
            if ((covered >> i & 1) != 0) {
                dotGray[j * SIZE + i] = gray;
            }
        }
    }

    private int insideRow(int j, boolean isEvenOdd) {
        int row = 0;
        for (int i = 0; i < SIZE; i++) {
            int winding = windingAt(i, j);
            boolean isInside = isEvenOdd ? (winding & 1) != 0 : winding != 0;
            if (isInside) {
                row |= 1 << i;
            }
        }
        return row;
    }

    private int windingAt(int i, int j) {
        int winding = 0;
        int first = 0;
        for (int k = 0; k < pointCount; k++) {
            if ((pointMark[k] & BEGINS) != 0) {
                first = k;
            }
            int to = endsSubpath(k) ? first : k + 1;
            winding += passing(k, to, i, j);
        }
        return winding;
    }

    private boolean endsSubpath(int k) {
        return k + 1 >= pointCount || (pointMark[k + 1] & BEGINS) != 0;
    }

    /** 1 if the line passes the dot upwards, -1 if downwards, else 0; all doubled, so that a dot's middle is whole. */
    private int passing(int from, int to, int i, int j) {
        int middleX = 2 * i + 1;
        int middleY = 2 * j + 1;
        int fromY = 2 * pointY[from];
        int toY = 2 * pointY[to];
        if (fromY < middleY == toY < middleY) {
            return 0;
        }
        int rise = toY - fromY;
        int shift = 2 * pointX[to] - 2 * pointX[from];
        // How far right of the middle the line is at this height, times its rise.
        int right = (2 * pointX[from] - middleX) * rise + shift * (middleY - fromY);
        if (rise > 0) {
            return right <= 0 ? 1 : 0;
        }
        return right >= 0 ? -1 : 0;
    }

    private int strokedRow(int j) {
        int row = 0;
        for (int i = 0; i < SIZE; i++) {
            if (isStroked(i, j)) {
                row |= 1 << i;
            }
        }
        return row;
    }

    private boolean isStroked(int i, int j) {
        int first = 0;
        for (int k = 0; k < pointCount; k++) {
            if ((pointMark[k] & BEGINS) != 0) {
                first = k;
            }
            boolean isLast = endsSubpath(k);
            boolean hasLine = !isLast || (pointMark[k] & CLOSED) != 0;
            if (hasLine && isNear(k, isLast ? first : k + 1, i, j)) {
                return true;
            }
        }
        return false;
    }

    /** All doubled, so that a dot's middle is whole and the width is the greatest distance. */
    private boolean isNear(int from, int to, int i, int j) {
        long lineX = 2 * pointX[to] - 2 * pointX[from];
        long lineY = 2 * pointY[to] - 2 * pointY[from];
        long fromX = 2 * i + 1 - 2 * pointX[from];
        long fromY = 2 * j + 1 - 2 * pointY[from];
        long square = lineX * lineX + lineY * lineY;
        long along = fromX * lineX + fromY * lineY;
        long reach = (long) width * width;
        if (along <= 0) {
            return fromX * fromX + fromY * fromY <= reach;
        }
        if (along >= square) {
            long toX = fromX - lineX;
            long toY = fromY - lineY;
            return toX * toX + toY * toY <= reach;
        }
        long across = fromX * lineY - fromY * lineX;
        return across * across <= reach * square;
    }
}
