abbrev vwCl : List vw_C := [(RX0, TX0, 6), (RX1, TX1, 4), (RX2, TX2, 5), (RX3, TX3, 3), (RX4, TX4, 15)]

