/**
 * All that a sign can be asked, as one text, and then what only shows as it goes on: the ways of its stops and the
 * forms of its letters. That takes some 400 calls, so a sign is told once.
 */
final class Whole {
    private Whole() {
    }

    static String of(Flapline sign) {
        StringBuilder all = new StringBuilder();
        signAndDots(sign, all);
        for (int line = 0; line < sign.sign(4); line++) {
            ofLine(sign, line, all);
        }
        all.append(" sound ").append(sign.isSound()).append(" digest ").append(sign.digest());
        route(sign, all);
        letters(sign, all);
        return all.toString();
    }

    private static void signAndDots(Flapline sign, StringBuilder all) {
        all.append("sign");
        for (int what = 0; what <= 17; what++) {
            all.append(' ').append(sign.sign(what));
        }
        for (int height = 0; height < 5; height++) {
            all.append(' ').append(sign.row(height));
        }
        for (int column = 0; column < sign.sign(0); column++) {
            all.append(" column ").append(column).append(" wear ").append(sign.column(column, 1));
            for (int height = 0; height < 5; height++) {
                all.append(' ').append(sign.dot(column, height, 1));
                all.append(' ').append(sign.dot(column, height, 2));
            }
        }
    }

    private static void ofLine(Flapline sign, int line, StringBuilder all) {
        all.append(" line ").append(line);
        for (int what = 0; what <= 7; what++) {
            all.append(' ').append(sign.ofLine(line, what));
        }
        for (int nth = 0; nth < 3; nth++) {
            all.append(' ').append(sign.step(line, nth));
        }
        all.append(' ').append(sign.wouldRead(line));
        for (int other = 0; other <= line; other++) {
            all.append(' ').append(sign.apart(other, line));
        }
    }

    private static void route(Flapline sign, StringBuilder all) {
        all.append(" route ").append(sign.again());
        int next = sign.sign(14) == 0 ? -1 : 0;
        for (int turn = 0; turn < 12 && next >= 0; turn++) {
            next = sign.wheel(1);
            all.append(' ').append(next).append(' ').append(sign.sign(16)).append(' ').append(sign.sign(17));
        }
    }

    private static void letters(Flapline sign, StringBuilder all) {
        all.append(" letters");
        for (int letter = 1; letter <= sign.sign(3) && sign.sign(4) < 8; letter++) {
            try {
                int line = sign.list(letter);
                all.append(' ').append(sign.ofLine(line, 1)).append(' ').append(sign.ofLine(line, 7));
            } catch (IllegalStateException thrown) {
                all.append(" listed");
            }
        }
    }
}
