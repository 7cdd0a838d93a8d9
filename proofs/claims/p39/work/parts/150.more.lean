-- functions of other methods, of which nothing is walked here

