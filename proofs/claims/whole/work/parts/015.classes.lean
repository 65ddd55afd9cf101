abbrev vwCl : List vw_C := [(RX0, TX0, 4), (RX1, TX1, 2), (RX2, TX2, 4), (RX3, TX3, 9), (RX4, TX4, 3), (RX5, TX5, 11), (RX6, TX6, 3), (RX7, TX7, 3), (RX8, TX8, 14), (RX9, TX9, 27)]
