abbrev vwCl : List vw_C := [(RX1, TX1, 2), (RX2, TX2, 6), (RX3, TX3, 4), (RX4, TX4, 8), (RX5, TX5, 5), (RX6, TX6, 6), (RX7, TX7, 9), (RX8, TX8, 3), (RX9, TX9, 4), (RX10, TX10, 15), (RX11, TX11, 42)]
