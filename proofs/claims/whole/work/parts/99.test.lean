theorem zz_1 : vwCl.length = 9 := rfl
