theorem akr_70 {i : Int32} (hi : inb i 2 = true) : AK 103 (71 + i.toNatClampNeg) 0 5 0 := akrT_6 isT_64 hi
