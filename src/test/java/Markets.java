/** Prices that jump, put into an object and given back. */
final class Markets {
    private Markets() {
    }

    static int[][] throwPrices(Dice dice, CheapHours x, int hours) {
        int[][] prices = new int[3][hours];
        for (int market = 0; market < 3; market++) {
            int from = 0;
            while (from < hours) {
                int to = Math.min(hours - 1, from + dice.roll(0, 9));
                int price = dice.oneIn(5) ? -1 : dice.roll(0, 12);
                x.price(market, from, to, price);
                for (int hour = from; hour <= to; hour++) {
                    prices[market][hour] = price;
                }
                from = to + 1;
            }
        }
        return prices;
    }
}
