/**
 * A job's hours as a text of signs, and all that is told of it read from that text alone: '.' it
 * waits; b, w, s it brings back, works, saves at its market; B, W it brings back, works at full price.
 */
final class JobModel {
    final int work;
    final int due;
    final int market;
    final int save;
    final int bring;
    final int bid;
    final int span;
    final int full;
    final StringBuilder log = new StringBuilder();
    private int saved;
    private int unsaved;
    private int lost;
    private int taken;
    private int coins;
    private int ready = -1;

    JobModel(int what, int bid, int span, int full) {
        work = what / 1000000;
        due = what / 1000 % 1000;
        market = what / 100 % 10;
        save = what / 10 % 10;
        bring = what % 10;
        this.bid = bid;
        this.span = span;
        this.full = full;
    }

    void hour(int hour, int price) {
        if (ready >= 0) {
            return;
        }
        char sign = next(hour, price);
        log.append(sign);
        coins += "BW".indexOf(sign) >= 0 ? full : sign == '.' ? 0 : price;
        replay();
        if (saved == work) {
            ready = hour + 1;
        }
    }

    int tell(int what) {
        int[] all = {saved, unsaved, lost, signs("wW"), signs("bB"), signs("s"), signs("."), coins,
            signs("BW"), where(), ready, need(), taken};
        return all[what];
    }

    private char next(int hour, int price) {
        char last = log.length() == 0 ? '.' : log.charAt(log.length() - 1);
        if (signs("BW") > 0) {
            return last == 'B' && signs("B") < bring ? 'B' : 'W';
        }
        if (due - hour <= need()) {
            return saved > bring && bring > 0 ? 'B' : 'W';
        }
        if (price == -1 || price > bid) {
            return '.';
        }
        switch (last) {
            case 'b':
                return run('b') < bring ? 'b' : 'w';
            case 's':
                return run('s') < save ? 's' : 'w';
            case 'w':
                return save > 0 && (unsaved == span || saved + unsaved == work) ? 's' : 'w';
            default:
                return saved > 0 && bring > 0 ? 'b' : 'w';
        }
    }

    private void replay() {
        saved = 0;
        unsaved = 0;
        lost = 0;
        taken = 0;
        int saving = 0;
        char before = '.';
        for (char sign : log.toString().toCharArray()) {
            boolean wasLet = "bws".indexOf(before) >= 0;
            boolean isFull = "BW".indexOf(sign) >= 0;
            boolean wasFull = "BW".indexOf(before) >= 0;
            if (wasLet && (sign == '.' || isFull)) {
                taken += isFull ? 0 : 1;
                lost += unsaved;
                unsaved = 0;
            }
            if (isFull && !wasFull && saved <= bring) {
                lost += saved;
                saved = 0;
            }
            unsaved += sign == 'w' ? 1 : 0;
            saved += sign == 'W' ? 1 : 0;
            saving = sign == 's' ? saving + 1 : 0;
            boolean asksSave = unsaved == span || saved + unsaved == work;
            if (saving > 0 && saving == save || sign == 'w' && save == 0 && asksSave) {
                saved += unsaved;
                unsaved = 0;
                saving = 0;
            }
            before = sign;
        }
    }

    private int need() {
        return saved > bring ? work - saved + bring : work;
    }

    private int where() {
        if (ready >= 0 || log.length() == 0) {
            return 0;
        }
        char last = log.charAt(log.length() - 1);
        return last == '.' ? 0 : "BW".indexOf(last) >= 0 ? 2 : 1;
    }

    private int signs(String which) {
        return (int) log.chars().filter(c -> which.indexOf(c) >= 0).count();
    }

    private int run(char sign) {
        int i = log.length();
        while (i > 0 && log.charAt(i - 1) == sign) {
            i--;
        }
        return log.length() - i;
    }
}
