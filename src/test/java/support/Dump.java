/** All that an object answers to questions that change nothing, as one text. */
final class Dump {
    private Dump() {
    }

    static String of(OuterRows x) {
        StringBuilder all = new StringBuilder();
        for (int what = 0; what < 10; what++) {
            all.append(" about ").append(x.about(what));
        }
        for (int number = 0; number < 8; number++) {
            for (int i = 0; i < 6; i++) {
                all.append(' ').append(x.letter(0, number, i)).append('/').append(x.letter(1, number, i));
            }
        }
        all.append("\n").append(Check.rows(x)).append("\n").append(Check.log(x)).append("\n");
        for (int k = 0; k < 8; k++) {
            ofKey(x, k, all);
        }
        for (int what = 0; what < 4; what++) {
            all.append(" traffic ").append(x.traffic(what));
        }
        all.append(" ends ").append(x.busiest()).append(' ').append(x.dearest()).append(' ').append(x.nextLapse());
        all.append(" debts ").append(x.debts(0)).append(' ').append(x.debts(1)).append(" singles ").append(Check.singles(x));
        for (int who = 0; who < 4; who++) {
            all.append("\nwho ").append(Check.differences(x, who));
            for (int what = 0; what < 4; what++) {
                all.append(" lag ").append(x.lag(who, what));
            }
        }
        for (int how = 0; how < 4; how++) {
            all.append(" cost ").append(x.cost(how)).append(' ').append(x.replay(how * 1000, how % 3));
        }
        for (int what = 1; what < 5; what++) {
            all.append(" size ").append(x.size(what));
        }
        return all.toString();
    }

    private static void ofKey(OuterRows x, int k, StringBuilder all) {
        all.append("\nkey ").append(k);
        for (int what = 0; what < 5; what++) {
            all.append(' ').append(x.key(k, what));
        }
        for (int side = 0; side < 2; side++) {
            all.append(" there ").append(x.there(side, k)).append(" flips ").append(x.flips(side, k));
            for (int v = 0; v < 8; v++) {
                all.append(' ').append(x.net(side, k, v)).append(' ').append(x.would(side, k, v, 1, x.about(5)));
            }
        }
        for (int l = -1; l < 8; l++) {
            for (int r = -1; r < 8; r++) {
                all.append(' ').append(x.join(k, l, r)).append(' ').append(x.closed(k, l, r)).append(' ').append(x.sent(k, l, r));
                for (int who = 0; who < 4; who++) {
                    all.append(' ').append(x.held(who, k, l, r));
                }
            }
        }
    }
}
