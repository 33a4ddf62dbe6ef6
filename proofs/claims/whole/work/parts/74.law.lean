def mi_law (L : Nat) (xs : Nat → Int32) : MI := (x, Cond.code x code 7 (some .boolean), code, 7, some .boolean, [], 601024, 7293034, 1, some (L, xs))
set_option maxRecDepth 100000 in
set_option maxHeartbeats 8000000 in
def f_L_law_1908 (L : Nat) (xs : Nat → Int32) (k23 : Nat → Nat → Nat → Int32 → Mem → Option (Int32 × Mem)) (v1 : Nat) (v2 : Nat) (v3 : Nat) (v4 : Int32) (M : Mem) : Option (Int32 × Mem) :=
  k23 v1 v2 v3 (v4 + 6) M
set_option maxRecDepth 100000 in
set_option maxHeartbeats 8000000 in
def f_L_law_1881 (L : Nat) (xs : Nat → Int32) (k23 : Nat → Nat → Nat → Int32 → Mem → Option (Int32 × Mem)) (v1 : Nat) (v2 : Nat) (v3 : Nat) (v4 : Int32) (M : Mem) : Option (Int32 × Mem) :=
  f_L_law_1908 L xs k23 v1 v2 v3 v4 M
set_option maxRecDepth 100000 in
set_option maxHeartbeats 8000000 in
def f_L_law_1788 (L : Nat) (xs : Nat → Int32) (k23 : Nat → Nat → Nat → Int32 → Mem → Option (Int32 × Mem)) (v1 : Nat) (v2 : Nat) (v3 : Nat) (v4 : Int32) (M : Mem) : Option (Int32 × Mem) :=
  f_L_law_1908 L xs k23 v1 v2 v3 v4 M
set_option maxRecDepth 100000 in
set_option maxHeartbeats 8000000 in
def f_L_law_1696 (L : Nat) (xs : Nat → Int32) (k23 : Nat → Nat → Nat → Int32 → Mem → Option (Int32 × Mem)) (v1 : Nat) (v2 : Nat) (v3 : Nat) (v4 : Int32) (M : Mem) : Option (Int32 × Mem) :=
  f_L_law_1908 L xs k23 v1 v2 v3 v4 M
set_option maxRecDepth 100000 in
set_option maxHeartbeats 8000000 in
def f_L_law_1603 (L : Nat) (xs : Nat → Int32) (k23 : Nat → Nat → Nat → Int32 → Mem → Option (Int32 × Mem)) (v1 : Nat) (v2 : Nat) (v3 : Nat) (v4 : Int32) (M : Mem) : Option (Int32 × Mem) :=
  f_L_law_1908 L xs k23 v1 v2 v3 v4 M
set_option maxRecDepth 100000 in
set_option maxHeartbeats 8000000 in
def f_L_law_1535 (L : Nat) (xs : Nat → Int32) (k23 : Nat → Nat → Nat → Int32 → Mem → Option (Int32 × Mem)) (v1 : Nat) (v2 : Nat) (v3 : Nat) (v4 : Int32) (M : Mem) : Option (Int32 × Mem) :=
  f_L_law_1908 L xs k23 v1 v2 v3 v4 M
set_option maxRecDepth 100000 in
set_option maxHeartbeats 8000000 in
def f_L_law_1467 (L : Nat) (xs : Nat → Int32) (k23 : Nat → Nat → Nat → Int32 → Mem → Option (Int32 × Mem)) (v1 : Nat) (v2 : Nat) (v3 : Nat) (v4 : Int32) (M : Mem) : Option (Int32 × Mem) :=
  f_L_law_1908 L xs k23 v1 v2 v3 v4 M
set_option maxRecDepth 100000 in
set_option maxHeartbeats 8000000 in
def f_L_law_1387 (L : Nat) (xs : Nat → Int32) (k23 : Nat → Nat → Nat → Int32 → Mem → Option (Int32 × Mem)) (v1 : Nat) (v2 : Nat) (v3 : Nat) (v4 : Int32) (M : Mem) : Option (Int32 × Mem) :=
  f_L_law_1908 L xs k23 v1 v2 v3 v4 M
set_option maxRecDepth 100000 in
set_option maxHeartbeats 8000000 in
def f_L_law_1319 (L : Nat) (xs : Nat → Int32) (k23 : Nat → Nat → Nat → Int32 → Mem → Option (Int32 × Mem)) (v1 : Nat) (v2 : Nat) (v3 : Nat) (v4 : Int32) (M : Mem) : Option (Int32 × Mem) :=
  f_L_law_1908 L xs k23 v1 v2 v3 v4 M
set_option maxRecDepth 100000 in
set_option maxHeartbeats 8000000 in
def f_L_law_1251 (L : Nat) (xs : Nat → Int32) (k23 : Nat → Nat → Nat → Int32 → Mem → Option (Int32 × Mem)) (v1 : Nat) (v2 : Nat) (v3 : Nat) (v4 : Int32) (M : Mem) : Option (Int32 × Mem) :=
  f_L_law_1908 L xs k23 v1 v2 v3 v4 M
set_option maxRecDepth 100000 in
set_option maxHeartbeats 8000000 in
def f_L_law_1195 (L : Nat) (xs : Nat → Int32) (k23 : Nat → Nat → Nat → Int32 → Mem → Option (Int32 × Mem)) (v1 : Nat) (v2 : Nat) (v3 : Nat) (v4 : Int32) (M : Mem) : Option (Int32 × Mem) :=
  f_L_law_1908 L xs k23 v1 v2 v3 v4 M
set_option maxRecDepth 100000 in
set_option maxHeartbeats 8000000 in
def f_L_law_1127 (L : Nat) (xs : Nat → Int32) (k23 : Nat → Nat → Nat → Int32 → Mem → Option (Int32 × Mem)) (v1 : Nat) (v2 : Nat) (v3 : Nat) (v4 : Int32) (M : Mem) : Option (Int32 × Mem) :=
  f_L_law_1908 L xs k23 v1 v2 v3 v4 M
set_option maxRecDepth 100000 in
set_option maxHeartbeats 8000000 in
def f_L_law_1047 (L : Nat) (xs : Nat → Int32) (k23 : Nat → Nat → Nat → Int32 → Mem → Option (Int32 × Mem)) (v1 : Nat) (v2 : Nat) (v3 : Nat) (v4 : Int32) (M : Mem) : Option (Int32 × Mem) :=
  f_L_law_1908 L xs k23 v1 v2 v3 v4 M
set_option maxRecDepth 100000 in
set_option maxHeartbeats 8000000 in
def f_L_law_979 (L : Nat) (xs : Nat → Int32) (k23 : Nat → Nat → Nat → Int32 → Mem → Option (Int32 × Mem)) (v1 : Nat) (v2 : Nat) (v3 : Nat) (v4 : Int32) (M : Mem) : Option (Int32 × Mem) :=
  f_L_law_1908 L xs k23 v1 v2 v3 v4 M
set_option maxRecDepth 100000 in
set_option maxHeartbeats 8000000 in
def f_L_law_899 (L : Nat) (xs : Nat → Int32) (k23 : Nat → Nat → Nat → Int32 → Mem → Option (Int32 × Mem)) (v1 : Nat) (v2 : Nat) (v3 : Nat) (v4 : Int32) (M : Mem) : Option (Int32 × Mem) :=
  f_L_law_1908 L xs k23 v1 v2 v3 v4 M
set_option maxRecDepth 100000 in
set_option maxHeartbeats 8000000 in
def f_L_law_819 (L : Nat) (xs : Nat → Int32) (k23 : Nat → Nat → Nat → Int32 → Mem → Option (Int32 × Mem)) (v1 : Nat) (v2 : Nat) (v3 : Nat) (v4 : Int32) (M : Mem) : Option (Int32 × Mem) :=
  f_L_law_1908 L xs k23 v1 v2 v3 v4 M
set_option maxRecDepth 100000 in
set_option maxHeartbeats 8000000 in
def f_L_law_739 (L : Nat) (xs : Nat → Int32) (k23 : Nat → Nat → Nat → Int32 → Mem → Option (Int32 × Mem)) (v1 : Nat) (v2 : Nat) (v3 : Nat) (v4 : Int32) (M : Mem) : Option (Int32 × Mem) :=
  f_L_law_1908 L xs k23 v1 v2 v3 v4 M
set_option maxRecDepth 100000 in
set_option maxHeartbeats 8000000 in
def f_L_law_671 (L : Nat) (xs : Nat → Int32) (k23 : Nat → Nat → Nat → Int32 → Mem → Option (Int32 × Mem)) (v1 : Nat) (v2 : Nat) (v3 : Nat) (v4 : Int32) (M : Mem) : Option (Int32 × Mem) :=
  f_L_law_1908 L xs k23 v1 v2 v3 v4 M
set_option maxRecDepth 100000 in
set_option maxHeartbeats 8000000 in
def f_L_law_603 (L : Nat) (xs : Nat → Int32) (k23 : Nat → Nat → Nat → Int32 → Mem → Option (Int32 × Mem)) (v1 : Nat) (v2 : Nat) (v3 : Nat) (v4 : Int32) (M : Mem) : Option (Int32 × Mem) :=
  f_L_law_1908 L xs k23 v1 v2 v3 v4 M
set_option maxRecDepth 100000 in
set_option maxHeartbeats 8000000 in
def f_L_law_535 (L : Nat) (xs : Nat → Int32) (k23 : Nat → Nat → Nat → Int32 → Mem → Option (Int32 × Mem)) (v1 : Nat) (v2 : Nat) (v3 : Nat) (v4 : Int32) (M : Mem) : Option (Int32 × Mem) :=
  f_L_law_1908 L xs k23 v1 v2 v3 v4 M
set_option maxRecDepth 100000 in
set_option maxHeartbeats 8000000 in
def f_L_law_466 (L : Nat) (xs : Nat → Int32) (k23 : Nat → Nat → Nat → Int32 → Mem → Option (Int32 × Mem)) (v1 : Nat) (v2 : Nat) (v3 : Nat) (v4 : Int32) (M : Mem) : Option (Int32 × Mem) :=
  f_L_law_1908 L xs k23 v1 v2 v3 v4 M
set_option maxRecDepth 100000 in
set_option maxHeartbeats 8000000 in
def f_L_law_410 (L : Nat) (xs : Nat → Int32) (k23 : Nat → Nat → Nat → Int32 → Mem → Option (Int32 × Mem)) (v1 : Nat) (v2 : Nat) (v3 : Nat) (v4 : Int32) (M : Mem) : Option (Int32 × Mem) :=
  f_L_law_1908 L xs k23 v1 v2 v3 v4 M
set_option maxRecDepth 100000 in
set_option maxHeartbeats 8000000 in
def f_L_law_354 (L : Nat) (xs : Nat → Int32) (k23 : Nat → Nat → Nat → Int32 → Mem → Option (Int32 × Mem)) (v1 : Nat) (v2 : Nat) (v3 : Nat) (v4 : Int32) (M : Mem) : Option (Int32 × Mem) :=
  f_L_law_1908 L xs k23 v1 v2 v3 v4 M
set_option maxRecDepth 100000 in
set_option maxHeartbeats 8000000 in
def f_L_law_298 (L : Nat) (xs : Nat → Int32) (k23 : Nat → Nat → Nat → Int32 → Mem → Option (Int32 × Mem)) (v1 : Nat) (v2 : Nat) (v3 : Nat) (v4 : Int32) (M : Mem) : Option (Int32 × Mem) :=
  f_L_law_1908 L xs k23 v1 v2 v3 v4 M
set_option maxRecDepth 100000 in
set_option maxHeartbeats 8000000 in
def f_L_law_23 (L : Nat) (xs : Nat → Int32) : Nat → Nat → Nat → Nat → Int32 → Mem → Option (Int32 × Mem)
  | 0, _, _, _, _, _ => none
  | n + 1, v1, v2, v3, v4, M =>
    if ((Int32.ofNat L) - (6 : Int32)) < v4 then
      some ((1 : Int32), M)
    else
      if inB v4 L = true then
        if ((xs v4.toNatClampNeg) &&& (31 : Int32)) = (0 : Int32) then
          if inB (v4 + (1 : Int32)) L = true then
            if inB (v4 + (2 : Int32)) L = true then
              if inB (v4 + (3 : Int32)) L = true then
                if inB (v4 + (4 : Int32)) L = true then
                  if inB (v4 + (5 : Int32)) L = true then
                    if mK M v1 = 12 then
                      bnd (f_X11_feed v1 (xs (v4 + (1 : Int32)).toNatClampNeg) (xs (v4 + (2 : Int32)).toNatClampNeg) (xs (v4 + (3 : Int32)).toNatClampNeg) (xs (v4 + (4 : Int32)).toNatClampNeg) (xs (v4 + (5 : Int32)).toNatClampNeg) M) fun r11 M10 =>
                      if inB (v4 + (1 : Int32)) L = true then
                        if inB (v4 + (2 : Int32)) L = true then
                          if inB (v4 + (3 : Int32)) L = true then
                            if inB (v4 + (4 : Int32)) L = true then
                              if inB (v4 + (5 : Int32)) L = true then
                                if mK M10 v2 = 13 then
                                  bnd (f_X12_feed v2 (xs (v4 + (1 : Int32)).toNatClampNeg) (xs (v4 + (2 : Int32)).toNatClampNeg) (xs (v4 + (3 : Int32)).toNatClampNeg) (xs (v4 + (4 : Int32)).toNatClampNeg) (xs (v4 + (5 : Int32)).toNatClampNeg) M10) fun r19 M18 =>
                                  if r11 = r19 then
                                    f_L_law_1908 L xs (f_L_law_23 L xs n) v1 v2 v3 v4 M18
                                  else
                                    some ((0 : Int32), M18)
                                else none
                              else none
                            else none
                          else none
                        else none
                      else none
                    else none
                  else none
                else none
              else none
            else none
          else none
        else
        if ((xs v4.toNatClampNeg) &&& (31 : Int32)) = (1 : Int32) then
          if inB (v4 + (1 : Int32)) L = true then
            bnd (f_L_schema v1 (xs (v4 + (1 : Int32)).toNatClampNeg) v3 M) fun r24 M23 =>
            if inB (v4 + (1 : Int32)) L = true then
              if mK M23 v2 = 13 then
                bnd (f_X12_schema v2 (xs (v4 + (1 : Int32)).toNatClampNeg) M23) fun r28 M27 =>
                if mK M27 v2 = 13 then
                  bnd (f_X12_thrown v2 M27) fun r31 M30 =>
                  if r31 = r24 then
                    if r24 = 0 then
                      if mK M30 v3 = 22 then
                        if inB (0 : Int32) (mN M30 v3) = true then
                          if (lg_cmp (mJ M30 v3 (0 : Int32).toNatClampNeg) r28.toInt64) = 0 then
                            f_L_law_298 L xs (f_L_law_23 L xs n) v1 v2 v3 v4 M30
                          else
                            some ((0 : Int32), M30)
                        else none
                      else none
                    else
                      f_L_law_298 L xs (f_L_law_23 L xs n) v1 v2 v3 v4 M30
                  else
                    some ((0 : Int32), M30)
                else none
              else none
            else none
          else none
        else
        if ((xs v4.toNatClampNeg) &&& (31 : Int32)) = (2 : Int32) then
          if inB (v4 + (1 : Int32)) L = true then
            if okrB M [4000000, v1, v2, v3] = true then
              bnd (f_L_add v1 (xs (v4 + (1 : Int32)).toNatClampNeg) v3 M) fun r40 M39 =>
              if inB (v4 + (1 : Int32)) L = true then
                if mK M39 v2 = 13 then
                  bnd (f_X12_add v2 (xs (v4 + (1 : Int32)).toNatClampNeg) M39) fun r45 M44 =>
                  if mK M44 v2 = 13 then
                    bnd (f_X12_thrown v2 M44) fun r48 M47 =>
                    if r48 = r40 then
                      if r40 = 0 then
                        if mK M47 v3 = 22 then
                          if inB (0 : Int32) (mN M47 v3) = true then
                            if (lg_cmp (mJ M47 v3 (0 : Int32).toNatClampNeg) r45.toInt64) = 0 then
                              f_L_law_354 L xs (f_L_law_23 L xs n) v1 v2 v3 v4 M47
                            else
                              some ((0 : Int32), M47)
                          else none
                        else none
                      else
                        f_L_law_354 L xs (f_L_law_23 L xs n) v1 v2 v3 v4 M47
                    else
                      some ((0 : Int32), M47)
                  else none
                else none
              else none
            else none
          else none
        else
        if ((xs v4.toNatClampNeg) &&& (31 : Int32)) = (3 : Int32) then
          if inB (v4 + (1 : Int32)) L = true then
            bnd (f_L_view v1 (xs (v4 + (1 : Int32)).toNatClampNeg) v3 M) fun r57 M56 =>
            if inB (v4 + (1 : Int32)) L = true then
              if mK M56 v2 = 13 then
                bnd (f_X12_view v2 (xs (v4 + (1 : Int32)).toNatClampNeg) M56) fun r61 M60 =>
                if mK M60 v2 = 13 then
                  bnd (f_X12_thrown v2 M60) fun r64 M63 =>
                  if r64 = r57 then
                    if r57 = 0 then
                      if mK M63 v3 = 22 then
                        if inB (0 : Int32) (mN M63 v3) = true then
                          if (lg_cmp (mJ M63 v3 (0 : Int32).toNatClampNeg) r61.toInt64) = 0 then
                            f_L_law_410 L xs (f_L_law_23 L xs n) v1 v2 v3 v4 M63
                          else
                            some ((0 : Int32), M63)
                        else none
                      else none
                    else
                      f_L_law_410 L xs (f_L_law_23 L xs n) v1 v2 v3 v4 M63
                  else
                    some ((0 : Int32), M63)
                else none
              else none
            else none
          else none
        else
        if ((xs v4.toNatClampNeg) &&& (31 : Int32)) = (4 : Int32) then
          if inB (v4 + (1 : Int32)) L = true then
            bnd (f_L_pipe v1 (xs (v4 + (1 : Int32)).toNatClampNeg) v3 M) fun r73 M72 =>
            if inB (v4 + (1 : Int32)) L = true then
              if mK M72 v2 = 13 then
                bnd (f_X12_pipe v2 (xs (v4 + (1 : Int32)).toNatClampNeg) M72) fun r77 M76 =>
                if mK M76 v2 = 13 then
                  bnd (f_X12_thrown v2 M76) fun r80 M79 =>
                  if r80 = r73 then
                    if r73 = 0 then
                      if mK M79 v3 = 22 then
                        if inB (0 : Int32) (mN M79 v3) = true then
                          if (lg_cmp (mJ M79 v3 (0 : Int32).toNatClampNeg) r77.toInt64) = 0 then
                            f_L_law_466 L xs (f_L_law_23 L xs n) v1 v2 v3 v4 M79
                          else
                            some ((0 : Int32), M79)
                        else none
                      else none
                    else
                      f_L_law_466 L xs (f_L_law_23 L xs n) v1 v2 v3 v4 M79
                  else
                    some ((0 : Int32), M79)
                else none
              else none
            else none
          else none
        else
        if ((xs v4.toNatClampNeg) &&& (31 : Int32)) = (5 : Int32) then
          if mK M v1 = 12 then
            bnd (f_X11_fault v1 M) fun r89 M88 =>
            if mK M88 v2 = 13 then
              bnd (f_X12_fault v2 M88) fun r92 M91 =>
              if r89 = r92 then
                f_L_law_1908 L xs (f_L_law_23 L xs n) v1 v2 v3 v4 M91
              else
                some ((0 : Int32), M91)
            else none
          else none
        else
        if ((xs v4.toNatClampNeg) &&& (31 : Int32)) = (6 : Int32) then
          if inB (v4 + (1 : Int32)) L = true then
            bnd (f_L_count v1 (xs (v4 + (1 : Int32)).toNatClampNeg) v3 M) fun r97 M96 =>
            if inB (v4 + (1 : Int32)) L = true then
              if mK M96 v2 = 13 then
                bnd (f_X12_count v2 (xs (v4 + (1 : Int32)).toNatClampNeg) M96) fun r101 M100 =>
                if mK M100 v2 = 13 then
                  bnd (f_X12_thrown v2 M100) fun r104 M103 =>
                  if r104 = r97 then
                    if r97 = 0 then
                      if mK M103 v3 = 22 then
                        if inB (0 : Int32) (mN M103 v3) = true then
                          if (lg_cmp (mJ M103 v3 (0 : Int32).toNatClampNeg) r101.toInt64) = 0 then
                            f_L_law_535 L xs (f_L_law_23 L xs n) v1 v2 v3 v4 M103
                          else
                            some ((0 : Int32), M103)
                        else none
                      else none
                    else
                      f_L_law_535 L xs (f_L_law_23 L xs n) v1 v2 v3 v4 M103
                  else
                    some ((0 : Int32), M103)
                else none
              else none
            else none
          else none
        else
        if ((xs v4.toNatClampNeg) &&& (31 : Int32)) = (7 : Int32) then
          if inB (v4 + (1 : Int32)) L = true then
            if inB (v4 + (2 : Int32)) L = true then
              bnd (f_L_field v1 (xs (v4 + (1 : Int32)).toNatClampNeg) (xs (v4 + (2 : Int32)).toNatClampNeg) v3 M) fun r114 M113 =>
              if inB (v4 + (1 : Int32)) L = true then
                if inB (v4 + (2 : Int32)) L = true then
                  if mK M113 v2 = 13 then
                    bnd (f_X12_field v2 (xs (v4 + (1 : Int32)).toNatClampNeg) (xs (v4 + (2 : Int32)).toNatClampNeg) M113) fun r119 M118 =>
                    if mK M118 v2 = 13 then
                      bnd (f_X12_thrown v2 M118) fun r122 M121 =>
                      if r122 = r114 then
                        if r114 = 0 then
                          if mK M121 v3 = 22 then
                            if inB (0 : Int32) (mN M121 v3) = true then
                              if (lg_cmp (mJ M121 v3 (0 : Int32).toNatClampNeg) r119.toInt64) = 0 then
                                f_L_law_603 L xs (f_L_law_23 L xs n) v1 v2 v3 v4 M121
                              else
                                some ((0 : Int32), M121)
                            else none
                          else none
                        else
                          f_L_law_603 L xs (f_L_law_23 L xs n) v1 v2 v3 v4 M121
                      else
                        some ((0 : Int32), M121)
                    else none
                  else none
                else none
              else none
            else none
          else none
        else
        if ((xs v4.toNatClampNeg) &&& (31 : Int32)) = (8 : Int32) then
          if inB (v4 + (1 : Int32)) L = true then
            if inB (v4 + (2 : Int32)) L = true then
              bnd (f_L_name v1 (xs (v4 + (1 : Int32)).toNatClampNeg) (xs (v4 + (2 : Int32)).toNatClampNeg) v3 M) fun r132 M131 =>
              if inB (v4 + (1 : Int32)) L = true then
                if inB (v4 + (2 : Int32)) L = true then
                  if mK M131 v2 = 13 then
                    bnd (f_X12_name v2 (xs (v4 + (1 : Int32)).toNatClampNeg) (xs (v4 + (2 : Int32)).toNatClampNeg) M131) fun r137 M136 =>
                    if mK M136 v2 = 13 then
                      bnd (f_X12_thrown v2 M136) fun r140 M139 =>
                      if r140 = r132 then
                        if r132 = 0 then
                          if mK M139 v3 = 22 then
                            if inB (0 : Int32) (mN M139 v3) = true then
                              if (lg_cmp (mJ M139 v3 (0 : Int32).toNatClampNeg) r137.toInt64) = 0 then
                                f_L_law_671 L xs (f_L_law_23 L xs n) v1 v2 v3 v4 M139
                              else
                                some ((0 : Int32), M139)
                            else none
                          else none
                        else
                          f_L_law_671 L xs (f_L_law_23 L xs n) v1 v2 v3 v4 M139
                      else
                        some ((0 : Int32), M139)
                    else none
                  else none
                else none
              else none
            else none
          else none
        else
        if ((xs v4.toNatClampNeg) &&& (31 : Int32)) = (9 : Int32) then
          if inB (v4 + (1 : Int32)) L = true then
            if inB (v4 + (2 : Int32)) L = true then
              bnd (f_L_leaf v1 (xs (v4 + (1 : Int32)).toNatClampNeg) (xs (v4 + (2 : Int32)).toNatClampNeg) v3 M) fun r150 M149 =>
              if inB (v4 + (1 : Int32)) L = true then
                if inB (v4 + (2 : Int32)) L = true then
                  if mK M149 v2 = 13 then
                    bnd (f_X12_leaf v2 (xs (v4 + (1 : Int32)).toNatClampNeg) (xs (v4 + (2 : Int32)).toNatClampNeg) M149) fun r155 M154 =>
                    if mK M154 v2 = 13 then
                      bnd (f_X12_thrown v2 M154) fun r158 M157 =>
                      if r158 = r150 then
                        if r150 = 0 then
                          if mK M157 v3 = 22 then
                            if inB (0 : Int32) (mN M157 v3) = true then
                              if (lg_cmp (mJ M157 v3 (0 : Int32).toNatClampNeg) r155.toInt64) = 0 then
                                f_L_law_739 L xs (f_L_law_23 L xs n) v1 v2 v3 v4 M157
                              else
                                some ((0 : Int32), M157)
                            else none
                          else none
                        else
                          f_L_law_739 L xs (f_L_law_23 L xs n) v1 v2 v3 v4 M157
                      else
                        some ((0 : Int32), M157)
                    else none
                  else none
                else none
              else none
            else none
          else none
        else
        if ((xs v4.toNatClampNeg) &&& (31 : Int32)) = (10 : Int32) then
          if inB (v4 + (1 : Int32)) L = true then
            if inB (v4 + (2 : Int32)) L = true then
              if inB (v4 + (3 : Int32)) L = true then
                bnd (f_L_entry v1 (xs (v4 + (1 : Int32)).toNatClampNeg) (xs (v4 + (2 : Int32)).toNatClampNeg) (xs (v4 + (3 : Int32)).toNatClampNeg) v3 M) fun r169 M168 =>
                if inB (v4 + (1 : Int32)) L = true then
                  if inB (v4 + (2 : Int32)) L = true then
                    if inB (v4 + (3 : Int32)) L = true then
                      if mK M168 v2 = 13 then
                        bnd (f_X12_entry v2 (xs (v4 + (1 : Int32)).toNatClampNeg) (xs (v4 + (2 : Int32)).toNatClampNeg) (xs (v4 + (3 : Int32)).toNatClampNeg) M168) fun r175 M174 =>
                        if mK M174 v2 = 13 then
                          bnd (f_X12_thrown v2 M174) fun r178 M177 =>
                          if r178 = r169 then
                            if r169 = 0 then
                              if mK M177 v3 = 22 then
                                if inB (0 : Int32) (mN M177 v3) = true then
                                  if (lg_cmp (mJ M177 v3 (0 : Int32).toNatClampNeg) r175.toInt64) = 0 then
                                    f_L_law_819 L xs (f_L_law_23 L xs n) v1 v2 v3 v4 M177
                                  else
                                    some ((0 : Int32), M177)
                                else none
                              else none
                            else
                              f_L_law_819 L xs (f_L_law_23 L xs n) v1 v2 v3 v4 M177
                          else
                            some ((0 : Int32), M177)
                        else none
                      else none
                    else none
                  else none
                else none
              else none
            else none
          else none
        else
        if ((xs v4.toNatClampNeg) &&& (31 : Int32)) = (11 : Int32) then
          if inB (v4 + (1 : Int32)) L = true then
            if inB (v4 + (2 : Int32)) L = true then
              if inB (v4 + (3 : Int32)) L = true then
                bnd (f_L_skip v1 (xs (v4 + (1 : Int32)).toNatClampNeg) (xs (v4 + (2 : Int32)).toNatClampNeg) (xs (v4 + (3 : Int32)).toNatClampNeg) v3 M) fun r189 M188 =>
                if inB (v4 + (1 : Int32)) L = true then
                  if inB (v4 + (2 : Int32)) L = true then
                    if inB (v4 + (3 : Int32)) L = true then
                      if mK M188 v2 = 13 then
                        bnd (f_X12_skip v2 (xs (v4 + (1 : Int32)).toNatClampNeg) (xs (v4 + (2 : Int32)).toNatClampNeg) (xs (v4 + (3 : Int32)).toNatClampNeg) M188) fun r195 M194 =>
                        if mK M194 v2 = 13 then
                          bnd (f_X12_thrown v2 M194) fun r198 M197 =>
                          if r198 = r189 then
                            if r189 = 0 then
                              if mK M197 v3 = 22 then
                                if inB (0 : Int32) (mN M197 v3) = true then
                                  if (lg_cmp (mJ M197 v3 (0 : Int32).toNatClampNeg) r195.toInt64) = 0 then
                                    f_L_law_899 L xs (f_L_law_23 L xs n) v1 v2 v3 v4 M197
                                  else
                                    some ((0 : Int32), M197)
                                else none
                              else none
                            else
                              f_L_law_899 L xs (f_L_law_23 L xs n) v1 v2 v3 v4 M197
                          else
                            some ((0 : Int32), M197)
                        else none
                      else none
                    else none
                  else none
                else none
              else none
            else none
          else none
        else
        if ((xs v4.toNatClampNeg) &&& (31 : Int32)) = (12 : Int32) then
          if inB (v4 + (1 : Int32)) L = true then
            if inB (v4 + (2 : Int32)) L = true then
              if inB (v4 + (3 : Int32)) L = true then
                bnd (f_L_next v1 (xs (v4 + (1 : Int32)).toNatClampNeg) (xs (v4 + (2 : Int32)).toNatClampNeg) (xs (v4 + (3 : Int32)).toNatClampNeg) v3 M) fun r209 M208 =>
                if inB (v4 + (1 : Int32)) L = true then
                  if inB (v4 + (2 : Int32)) L = true then
                    if inB (v4 + (3 : Int32)) L = true then
                      if mK M208 v2 = 13 then
                        bnd (f_X12_next v2 (xs (v4 + (1 : Int32)).toNatClampNeg) (xs (v4 + (2 : Int32)).toNatClampNeg) (xs (v4 + (3 : Int32)).toNatClampNeg) M208) fun r215 M214 =>
                        if mK M214 v2 = 13 then
                          bnd (f_X12_thrown v2 M214) fun r218 M217 =>
                          if r218 = r209 then
                            if r209 = 0 then
                              if mK M217 v3 = 22 then
                                if inB (0 : Int32) (mN M217 v3) = true then
                                  if (lg_cmp (mJ M217 v3 (0 : Int32).toNatClampNeg) r215.toInt64) = 0 then
                                    f_L_law_979 L xs (f_L_law_23 L xs n) v1 v2 v3 v4 M217
                                  else
                                    some ((0 : Int32), M217)
                                else none
                              else none
                            else
                              f_L_law_979 L xs (f_L_law_23 L xs n) v1 v2 v3 v4 M217
                          else
                            some ((0 : Int32), M217)
                        else none
                      else none
                    else none
                  else none
                else none
              else none
            else none
          else none
        else
        if ((xs v4.toNatClampNeg) &&& (31 : Int32)) = (13 : Int32) then
          if inB (v4 + (1 : Int32)) L = true then
            if inB (v4 + (2 : Int32)) L = true then
              bnd (f_L_length v1 (xs (v4 + (1 : Int32)).toNatClampNeg) (xs (v4 + (2 : Int32)).toNatClampNeg) v3 M) fun r228 M227 =>
              if inB (v4 + (1 : Int32)) L = true then
                if inB (v4 + (2 : Int32)) L = true then
                  if mK M227 v2 = 13 then
                    bnd (f_X12_length v2 (xs (v4 + (1 : Int32)).toNatClampNeg) (xs (v4 + (2 : Int32)).toNatClampNeg) M227) fun r233 M232 =>
                    if mK M232 v2 = 13 then
                      bnd (f_X12_thrown v2 M232) fun r236 M235 =>
                      if r236 = r228 then
                        if r228 = 0 then
                          if mK M235 v3 = 22 then
                            if inB (0 : Int32) (mN M235 v3) = true then
                              if (lg_cmp (mJ M235 v3 (0 : Int32).toNatClampNeg) r233.toInt64) = 0 then
                                f_L_law_1047 L xs (f_L_law_23 L xs n) v1 v2 v3 v4 M235
                              else
                                some ((0 : Int32), M235)
                            else none
                          else none
                        else
                          f_L_law_1047 L xs (f_L_law_23 L xs n) v1 v2 v3 v4 M235
                      else
                        some ((0 : Int32), M235)
                    else none
                  else none
                else none
              else none
            else none
          else none
        else
        if ((xs v4.toNatClampNeg) &&& (31 : Int32)) = (14 : Int32) then
          if inB (v4 + (1 : Int32)) L = true then
            if inB (v4 + (2 : Int32)) L = true then
              if inB (v4 + (3 : Int32)) L = true then
                bnd (f_L_sign v1 (xs (v4 + (1 : Int32)).toNatClampNeg) (xs (v4 + (2 : Int32)).toNatClampNeg) (xs (v4 + (3 : Int32)).toNatClampNeg) v3 M) fun r247 M246 =>
                if inB (v4 + (1 : Int32)) L = true then
                  if inB (v4 + (2 : Int32)) L = true then
                    if inB (v4 + (3 : Int32)) L = true then
                      if mK M246 v2 = 13 then
                        bnd (f_X12_sign v2 (xs (v4 + (1 : Int32)).toNatClampNeg) (xs (v4 + (2 : Int32)).toNatClampNeg) (xs (v4 + (3 : Int32)).toNatClampNeg) M246) fun r253 M252 =>
                        if mK M252 v2 = 13 then
                          bnd (f_X12_thrown v2 M252) fun r256 M255 =>
                          if r256 = r247 then
                            if r247 = 0 then
                              if mK M255 v3 = 22 then
                                if inB (0 : Int32) (mN M255 v3) = true then
                                  if (lg_cmp (mJ M255 v3 (0 : Int32).toNatClampNeg) r253.toInt64) = 0 then
                                    f_L_law_1127 L xs (f_L_law_23 L xs n) v1 v2 v3 v4 M255
                                  else
                                    some ((0 : Int32), M255)
                                else none
                              else none
                            else
                              f_L_law_1127 L xs (f_L_law_23 L xs n) v1 v2 v3 v4 M255
                          else
                            some ((0 : Int32), M255)
                        else none
                      else none
                    else none
                  else none
                else none
              else none
            else none
          else none
        else
        if ((xs v4.toNatClampNeg) &&& (31 : Int32)) = (15 : Int32) then
          if inB (v4 + (1 : Int32)) L = true then
            if inB (v4 + (2 : Int32)) L = true then
              bnd (f_L_reads v1 (xs (v4 + (1 : Int32)).toNatClampNeg) (xs (v4 + (2 : Int32)).toNatClampNeg) v3 M) fun r266 M265 =>
              if inB (v4 + (1 : Int32)) L = true then
                if inB (v4 + (2 : Int32)) L = true then
                  if mK M265 v2 = 13 then
                    bnd (f_X12_reads v2 (xs (v4 + (1 : Int32)).toNatClampNeg) (xs (v4 + (2 : Int32)).toNatClampNeg) M265) fun r271 M270 =>
                    if mK M270 v2 = 13 then
                      bnd (f_X12_thrown v2 M270) fun r274 M273 =>
                      if r274 = r266 then
                        if r266 = 0 then
                          if mK M273 v3 = 22 then
                            if inB (0 : Int32) (mN M273 v3) = true then
                              if (lg_cmp (mJ M273 v3 (0 : Int32).toNatClampNeg) r271.toInt64) = 0 then
                                f_L_law_1195 L xs (f_L_law_23 L xs n) v1 v2 v3 v4 M273
                              else
                                some ((0 : Int32), M273)
                            else none
                          else none
                        else
                          f_L_law_1195 L xs (f_L_law_23 L xs n) v1 v2 v3 v4 M273
                      else
                        some ((0 : Int32), M273)
                    else none
                  else none
                else none
              else none
            else none
          else none
        else
        if ((xs v4.toNatClampNeg) &&& (31 : Int32)) = (16 : Int32) then
          if inB (v4 + (1 : Int32)) L = true then
            bnd (f_L_seen v1 (xs (v4 + (1 : Int32)).toNatClampNeg) v3 M) fun r283 M282 =>
            if inB (v4 + (1 : Int32)) L = true then
              if mK M282 v2 = 13 then
                bnd (f_X12_seen v2 (xs (v4 + (1 : Int32)).toNatClampNeg) M282) fun r287 M286 =>
                if mK M286 v2 = 13 then
                  bnd (f_X12_thrown v2 M286) fun r290 M289 =>
                  if r290 = r283 then
                    if r283 = 0 then
                      if mK M289 v3 = 22 then
                        if inB (0 : Int32) (mN M289 v3) = true then
                          if (lg_cmp (mJ M289 v3 (0 : Int32).toNatClampNeg) r287.toInt64) = 0 then
                            f_L_law_1251 L xs (f_L_law_23 L xs n) v1 v2 v3 v4 M289
                          else
                            some ((0 : Int32), M289)
                        else none
                      else none
                    else
                      f_L_law_1251 L xs (f_L_law_23 L xs n) v1 v2 v3 v4 M289
                  else
                    some ((0 : Int32), M289)
                else none
              else none
            else none
          else none
        else
        if ((xs v4.toNatClampNeg) &&& (31 : Int32)) = (17 : Int32) then
          if inB (v4 + (1 : Int32)) L = true then
            if inB (v4 + (2 : Int32)) L = true then
              bnd (f_L_seenSign v1 (xs (v4 + (1 : Int32)).toNatClampNeg) (xs (v4 + (2 : Int32)).toNatClampNeg) v3 M) fun r300 M299 =>
              if inB (v4 + (1 : Int32)) L = true then
                if inB (v4 + (2 : Int32)) L = true then
                  if mK M299 v2 = 13 then
                    bnd (f_X12_seenSign v2 (xs (v4 + (1 : Int32)).toNatClampNeg) (xs (v4 + (2 : Int32)).toNatClampNeg) M299) fun r305 M304 =>
                    if mK M304 v2 = 13 then
                      bnd (f_X12_thrown v2 M304) fun r308 M307 =>
                      if r308 = r300 then
                        if r300 = 0 then
                          if mK M307 v3 = 22 then
                            if inB (0 : Int32) (mN M307 v3) = true then
                              if (lg_cmp (mJ M307 v3 (0 : Int32).toNatClampNeg) r305.toInt64) = 0 then
                                f_L_law_1319 L xs (f_L_law_23 L xs n) v1 v2 v3 v4 M307
                              else
                                some ((0 : Int32), M307)
                            else none
                          else none
                        else
                          f_L_law_1319 L xs (f_L_law_23 L xs n) v1 v2 v3 v4 M307
                      else
                        some ((0 : Int32), M307)
                    else none
                  else none
                else none
              else none
            else none
          else none
        else
        if ((xs v4.toNatClampNeg) &&& (31 : Int32)) = (18 : Int32) then
          if inB (v4 + (1 : Int32)) L = true then
            if inB (v4 + (2 : Int32)) L = true then
              bnd (f_L_fold v1 (xs (v4 + (1 : Int32)).toNatClampNeg) (xs (v4 + (2 : Int32)).toNatClampNeg) v3 M) fun r318 M317 =>
              if inB (v4 + (1 : Int32)) L = true then
                if inB (v4 + (2 : Int32)) L = true then
                  if mK M317 v2 = 13 then
                    bnd (f_X12_fold v2 (xs (v4 + (1 : Int32)).toNatClampNeg) (xs (v4 + (2 : Int32)).toNatClampNeg) M317) fun r323 M322 =>
                    if mK M322 v2 = 13 then
                      bnd (f_X12_thrown v2 M322) fun r326 M325 =>
                      if r326 = r318 then
                        if r318 = 0 then
                          if mK M325 v3 = 22 then
                            if inB (0 : Int32) (mN M325 v3) = true then
                              if (lg_cmp (mJ M325 v3 (0 : Int32).toNatClampNeg) r323.toInt64) = 0 then
                                f_L_law_1387 L xs (f_L_law_23 L xs n) v1 v2 v3 v4 M325
                              else
                                some ((0 : Int32), M325)
                            else none
                          else none
                        else
                          f_L_law_1387 L xs (f_L_law_23 L xs n) v1 v2 v3 v4 M325
                      else
                        some ((0 : Int32), M325)
                    else none
                  else none
                else none
              else none
            else none
          else none
        else
        if ((xs v4.toNatClampNeg) &&& (31 : Int32)) = (19 : Int32) then
          if inB (v4 + (1 : Int32)) L = true then
            if inB (v4 + (2 : Int32)) L = true then
              if inB (v4 + (3 : Int32)) L = true then
                bnd (f_L_picked v1 (xs (v4 + (1 : Int32)).toNatClampNeg) (xs (v4 + (2 : Int32)).toNatClampNeg) (xs (v4 + (3 : Int32)).toNatClampNeg) v3 M) fun r337 M336 =>
                if inB (v4 + (1 : Int32)) L = true then
                  if inB (v4 + (2 : Int32)) L = true then
                    if inB (v4 + (3 : Int32)) L = true then
                      if mK M336 v2 = 13 then
                        bnd (f_X12_picked v2 (xs (v4 + (1 : Int32)).toNatClampNeg) (xs (v4 + (2 : Int32)).toNatClampNeg) (xs (v4 + (3 : Int32)).toNatClampNeg) M336) fun r343 M342 =>
                        if mK M342 v2 = 13 then
                          bnd (f_X12_thrown v2 M342) fun r346 M345 =>
                          if r346 = r337 then
                            if r337 = 0 then
                              if mK M345 v3 = 22 then
                                if inB (0 : Int32) (mN M345 v3) = true then
                                  if (lg_cmp (mJ M345 v3 (0 : Int32).toNatClampNeg) r343.toInt64) = 0 then
                                    f_L_law_1467 L xs (f_L_law_23 L xs n) v1 v2 v3 v4 M345
                                  else
                                    some ((0 : Int32), M345)
                                else none
                              else none
                            else
                              f_L_law_1467 L xs (f_L_law_23 L xs n) v1 v2 v3 v4 M345
                          else
                            some ((0 : Int32), M345)
                        else none
                      else none
                    else none
                  else none
                else none
              else none
            else none
          else none
        else
        if ((xs v4.toNatClampNeg) &&& (31 : Int32)) = (20 : Int32) then
          if inB (v4 + (1 : Int32)) L = true then
            if inB (v4 + (2 : Int32)) L = true then
              bnd (f_L_pages v1 (xs (v4 + (1 : Int32)).toNatClampNeg) (xs (v4 + (2 : Int32)).toNatClampNeg) v3 M) fun r356 M355 =>
              if inB (v4 + (1 : Int32)) L = true then
                if inB (v4 + (2 : Int32)) L = true then
                  if mK M355 v2 = 13 then
                    bnd (f_X12_pages v2 (xs (v4 + (1 : Int32)).toNatClampNeg) (xs (v4 + (2 : Int32)).toNatClampNeg) M355) fun r361 M360 =>
                    if mK M360 v2 = 13 then
                      bnd (f_X12_thrown v2 M360) fun r364 M363 =>
                      if r364 = r356 then
                        if r356 = 0 then
                          if mK M363 v3 = 22 then
                            if inB (0 : Int32) (mN M363 v3) = true then
                              if (lg_cmp (mJ M363 v3 (0 : Int32).toNatClampNeg) r361.toInt64) = 0 then
                                f_L_law_1535 L xs (f_L_law_23 L xs n) v1 v2 v3 v4 M363
                              else
                                some ((0 : Int32), M363)
                            else none
                          else none
                        else
                          f_L_law_1535 L xs (f_L_law_23 L xs n) v1 v2 v3 v4 M363
                      else
                        some ((0 : Int32), M363)
                    else none
                  else none
                else none
              else none
            else none
          else none
        else
        if ((xs v4.toNatClampNeg) &&& (31 : Int32)) = (21 : Int32) then
          if inB (v4 + (1 : Int32)) L = true then
            if inB (v4 + (2 : Int32)) L = true then
              bnd (f_L_piped v1 (xs (v4 + (1 : Int32)).toNatClampNeg) (xs (v4 + (2 : Int32)).toNatClampNeg) v3 M) fun r374 M373 =>
              if inB (v4 + (1 : Int32)) L = true then
                if inB (v4 + (2 : Int32)) L = true then
                  if mK M373 v2 = 13 then
                    bnd (f_X12_piped v2 (xs (v4 + (1 : Int32)).toNatClampNeg) (xs (v4 + (2 : Int32)).toNatClampNeg) M373) fun r379 M378 =>
                    if mK M378 v2 = 13 then
                      bnd (f_X12_thrown v2 M378) fun r382 M381 =>
                      if r382 = r374 then
                        if r374 = 0 then
                          if mK M381 v3 = 22 then
                            if inB (0 : Int32) (mN M381 v3) = true then
                              if (lg_cmp (mJ M381 v3 (0 : Int32).toNatClampNeg) r379.toInt64) = 0 then
                                f_L_law_1603 L xs (f_L_law_23 L xs n) v1 v2 v3 v4 M381
                              else
                                some ((0 : Int32), M381)
                            else none
                          else none
                        else
                          f_L_law_1603 L xs (f_L_law_23 L xs n) v1 v2 v3 v4 M381
                      else
                        some ((0 : Int32), M381)
                    else none
                  else none
                else none
              else none
            else none
          else none
        else
        if ((xs v4.toNatClampNeg) &&& (31 : Int32)) = (22 : Int32) then
          if mK M v1 = 12 then
            if okrB M [4000000, v1, v2, v3] = true then
              bnd (f_X11_drop v1 M) fun r391 M390 =>
              if mK M390 v2 = 13 then
                bnd (f_X12_drop v2 M390) fun r395 M394 =>
                if r391 = r395 then
                  f_L_law_1908 L xs (f_L_law_23 L xs n) v1 v2 v3 v4 M394
                else
                  some ((0 : Int32), M394)
              else none
            else none
          else none
        else
        if ((xs v4.toNatClampNeg) &&& (31 : Int32)) = (23 : Int32) then
          if inB (v4 + (1 : Int32)) L = true then
            if inB (v4 + (2 : Int32)) L = true then
              if inB (v4 + (3 : Int32)) L = true then
                if okrB M [4000000, v1, v2, v3] = true then
                  bnd (f_L_set v1 (xs (v4 + (1 : Int32)).toNatClampNeg) (xs (v4 + (2 : Int32)).toNatClampNeg) (xs (v4 + (3 : Int32)).toNatClampNeg) v3 M) fun r402 M401 =>
                  if inB (v4 + (1 : Int32)) L = true then
                    if inB (v4 + (2 : Int32)) L = true then
                      if inB (v4 + (3 : Int32)) L = true then
                        if mK M401 v2 = 13 then
                          bnd (f_X12_set v2 (xs (v4 + (1 : Int32)).toNatClampNeg) (xs (v4 + (2 : Int32)).toNatClampNeg) (xs (v4 + (3 : Int32)).toNatClampNeg) M401) fun r409 M408 =>
                          if mK M408 v2 = 13 then
                            bnd (f_X12_thrown v2 M408) fun r412 M411 =>
                            if r412 = r402 then
                              if r402 = 0 then
                                if mK M411 v3 = 22 then
                                  if inB (0 : Int32) (mN M411 v3) = true then
                                    if (lg_cmp (mJ M411 v3 (0 : Int32).toNatClampNeg) r409.toInt64) = 0 then
                                      f_L_law_1696 L xs (f_L_law_23 L xs n) v1 v2 v3 v4 M411
                                    else
                                      some ((0 : Int32), M411)
                                  else none
                                else none
                              else
                                f_L_law_1696 L xs (f_L_law_23 L xs n) v1 v2 v3 v4 M411
                            else
                              some ((0 : Int32), M411)
                          else none
                        else none
                      else none
                    else none
                  else none
                else none
              else none
            else none
          else none
        else
        if ((xs v4.toNatClampNeg) &&& (31 : Int32)) = (24 : Int32) then
          if inB (v4 + (1 : Int32)) L = true then
            if inB (v4 + (2 : Int32)) L = true then
              if inB (v4 + (3 : Int32)) L = true then
                if inB (v4 + (4 : Int32)) L = true then
                  if okrB M [4000000, v1, v2, v3] = true then
                    bnd (f_L_damage v1 (xs (v4 + (1 : Int32)).toNatClampNeg) (xs (v4 + (2 : Int32)).toNatClampNeg) (xs (v4 + (3 : Int32)).toNatClampNeg) (xs (v4 + (4 : Int32)).toNatClampNeg) v3 M) fun r424 M423 =>
                    if inB (v4 + (1 : Int32)) L = true then
                      if inB (v4 + (2 : Int32)) L = true then
                        if inB (v4 + (3 : Int32)) L = true then
                          if inB (v4 + (4 : Int32)) L = true then
                            if mK M423 v2 = 13 then
                              bnd (f_X12_damage v2 (xs (v4 + (1 : Int32)).toNatClampNeg) (xs (v4 + (2 : Int32)).toNatClampNeg) (xs (v4 + (3 : Int32)).toNatClampNeg) (xs (v4 + (4 : Int32)).toNatClampNeg) M423) fun r432 M431 =>
                              if mK M431 v2 = 13 then
                                bnd (f_X12_thrown v2 M431) fun r435 M434 =>
                                if r435 = r424 then
                                  if r424 = 0 then
                                    if mK M434 v3 = 22 then
                                      if inB (0 : Int32) (mN M434 v3) = true then
                                        if (lg_cmp (mJ M434 v3 (0 : Int32).toNatClampNeg) r432.toInt64) = 0 then
                                          f_L_law_1788 L xs (f_L_law_23 L xs n) v1 v2 v3 v4 M434
                                        else
                                          some ((0 : Int32), M434)
                                      else none
                                    else none
                                  else
                                    f_L_law_1788 L xs (f_L_law_23 L xs n) v1 v2 v3 v4 M434
                                else
                                  some ((0 : Int32), M434)
                              else none
                            else none
                          else none
                        else none
                      else none
                    else none
                  else none
                else none
              else none
            else none
          else none
        else
        if ((xs v4.toNatClampNeg) &&& (31 : Int32)) = (25 : Int32) then
          if mK M v1 = 12 then
            bnd (f_X11_undo v1 M) fun r444 M443 =>
            if mK M443 v2 = 13 then
              bnd (f_X12_undo v2 M443) fun r447 M446 =>
              if r444 = r447 then
                f_L_law_1908 L xs (f_L_law_23 L xs n) v1 v2 v3 v4 M446
              else
                some ((0 : Int32), M446)
            else none
          else none
        else
        if ((xs v4.toNatClampNeg) &&& (31 : Int32)) = (26 : Int32) then
          if inB (v4 + (1 : Int32)) L = true then
            if inB (v4 + (2 : Int32)) L = true then
              if inB (v4 + (3 : Int32)) L = true then
                bnd (f_L_years v1 (xs (v4 + (1 : Int32)).toNatClampNeg) (xs (v4 + (2 : Int32)).toNatClampNeg) (xs (v4 + (3 : Int32)).toNatClampNeg) v3 M) fun r454 M453 =>
                if inB (v4 + (1 : Int32)) L = true then
                  if inB (v4 + (2 : Int32)) L = true then
                    if inB (v4 + (3 : Int32)) L = true then
                      if mK M453 v2 = 13 then
                        bnd (f_X12_years v2 (xs (v4 + (1 : Int32)).toNatClampNeg) (xs (v4 + (2 : Int32)).toNatClampNeg) (xs (v4 + (3 : Int32)).toNatClampNeg) M453) fun r460 M459 =>
                        if mK M459 v2 = 13 then
                          bnd (f_X12_thrown v2 M459) fun r463 M462 =>
                          if r463 = r454 then
                            if r454 = 0 then
                              if mK M462 v3 = 22 then
                                if inB (0 : Int32) (mN M462 v3) = true then
                                  if (lg_cmp (mJ M462 v3 (0 : Int32).toNatClampNeg) r460.toInt64) = 0 then
                                    f_L_law_1881 L xs (f_L_law_23 L xs n) v1 v2 v3 v4 M462
                                  else
                                    some ((0 : Int32), M462)
                                else none
                              else none
                            else
                              f_L_law_1881 L xs (f_L_law_23 L xs n) v1 v2 v3 v4 M462
                          else
                            some ((0 : Int32), M462)
                        else none
                      else none
                    else none
                  else none
                else none
              else none
            else none
          else none
        else
        if ((xs v4.toNatClampNeg) &&& (31 : Int32)) = (27 : Int32) then
          if mK M v1 = 12 then
            bnd (f_X11_image v1 M) fun _ M471 =>
            if mK M471 v2 = 13 then
              bnd (f_X12_image v2 M471) fun _ M474 =>
              f_L_law_1908 L xs (f_L_law_23 L xs n) v1 v2 v3 v4 M474
            else none
          else none
        else
        if ((xs v4.toNatClampNeg) &&& (31 : Int32)) = (28 : Int32) then
          if mK M v1 = 12 then
            bnd (f_X11_restore v1 M) fun r479 M478 =>
            if mK M478 v2 = 13 then
              bnd (f_X12_restore v2 M478) fun r482 M481 =>
              if r479 = r482 then
                f_L_law_1908 L xs (f_L_law_23 L xs n) v1 v2 v3 v4 M481
              else
                some ((0 : Int32), M481)
            else none
          else none
        else
        f_L_law_1908 L xs (f_L_law_23 L xs n) v1 v2 v3 v4 M
      else none
set_option maxRecDepth 100000 in
set_option maxHeartbeats 8000000 in
def f_law (L : Nat) (xs : Nat → Int32) (M : Mem) : Option (Int32 × Mem) :=
  if mn M + 1 < 900000 then
    if okrB M [4000000] = true then
    ap (mNew M 12 0) fun M2 =>
    if ¬ (mn M + 1) = 0 then
      if okrB M2 [4000000, (mn M + 1)] = true then
        bnd (f_X11_init (mn M + 1) M2) fun _ M4 =>
        if mn M4 + 1 < 900000 then
          if okrB M4 [4000000, (mn M + 1)] = true then
          ap (mNew M4 13 0) fun M8 =>
          if ¬ (mn M4 + 1) = 0 then
            if okrB M8 [4000000, (mn M + 1), (mn M4 + 1)] = true then
              bnd (f_X12_init (mn M4 + 1) M8) fun _ M10 =>
              if mn M10 + 1 < 900000 then
                if okrB M10 [4000000, (mn M + 1), (mn M4 + 1)] = true then
                  ap (mNew M10 22 (1 : Int32).toNatClampNeg) fun M14 =>
                  f_L_law_23 L xs 600 (mn M + 1) (mn M4 + 1) (mn M10 + 1) (0 : Int32) M14
                else none
              else none
            else none
          else none
          else none
        else none
      else none
    else none
    else none
  else none
set_option maxRecDepth 100000 in
set_option maxHeartbeats 8000000 in
theorem s_L_law_1908 (L : Nat) (xs : Nat → Int32) (k23 : Nat → Nat → Nat → Int32 → Mem → Option (Int32 × Mem)) (k u : Nat) (hku : k + 3 ≤ 601024 ∧ u + 1005 ≤ 7293034) (hk23 : ∀ (v1 : Nat) (v2 : Nat) (v3 : Nat) (v4 : Int32) (M : Mem) (r : (Int32 × Mem)), k23 v1 v2 v3 v4 M = some r → G (mi_law L xs) 51 (oI r.1) r.2 23 [some (aR 4000000), some (aR v1), some (aR v2), some (aR v3), some (aI v4), none, none] [] M (k + 3) (u + 1005)) (v1 : Nat) (v2 : Nat) (v3 : Nat) (v4 : Int32) (M : Mem) (r : (Int32 × Mem)) (hf : f_L_law_1908 L xs k23 v1 v2 v3 v4 M = some r) : G (mi_law L xs) 51 (oI r.1) r.2 1908 [some (aR 4000000), some (aR v1), some (aR v2), some (aR v3), some (aI v4), none, none] [] M (k + 3) (u + 1005) := by
  unfold f_L_law_1908 at hf
  refine g_iinc (pc' := 1911) (lv' := [some (aR 4000000), some (aR v1), some (aR v2), some (aR v3), some (aI (v4 + 6)), none, none]) (v4 + 6) dL_law_1908 rfl rfl (by rfl) rfl (Nat.le_of_ble_eq_true rfl) rfl ?_
  refine g_goto (pc' := 23) dL_law_1911 (by decide) ?_
  refine g_widen (k' := (k + 3)) (u' := (u + 1005)) (by omega) (by omega) ?_
  exact hk23 v1 v2 v3 (v4 + 6) M _ hf
set_option maxRecDepth 100000 in
set_option maxHeartbeats 8000000 in
theorem s_L_law_1881 (L : Nat) (xs : Nat → Int32) (k23 : Nat → Nat → Nat → Int32 → Mem → Option (Int32 × Mem)) (k u : Nat) (hku : k + 3 ≤ 601024 ∧ u + 1005 ≤ 7293034) (hk23 : ∀ (v1 : Nat) (v2 : Nat) (v3 : Nat) (v4 : Int32) (M : Mem) (r : (Int32 × Mem)), k23 v1 v2 v3 v4 M = some r → G (mi_law L xs) 51 (oI r.1) r.2 23 [some (aR 4000000), some (aR v1), some (aR v2), some (aR v3), some (aI v4), none, none] [] M (k + 3) (u + 1005)) (v1 : Nat) (v2 : Nat) (v3 : Nat) (v4 : Int32) (M : Mem) (r : (Int32 × Mem)) (hf : f_L_law_1881 L xs k23 v1 v2 v3 v4 M = some r) : G (mi_law L xs) 51 (oI r.1) r.2 1881 [some (aR 4000000), some (aR v1), some (aR v2), some (aR v3), some (aI v4), none, none] [] M (k + 1) (u + 6) := by
  unfold f_L_law_1881 at hf
  refine g_goto (pc' := 1908) dL_law_1881 (by decide) ?_
  refine g_widen (k' := (k + 3)) (u' := (u + 1005)) (by omega) (by omega) ?_
  exact s_L_law_1908 L xs k23 k u hku hk23 v1 v2 v3 v4 M _ hf
set_option maxRecDepth 100000 in
set_option maxHeartbeats 8000000 in
theorem s_L_law_1788 (L : Nat) (xs : Nat → Int32) (k23 : Nat → Nat → Nat → Int32 → Mem → Option (Int32 × Mem)) (k u : Nat) (hku : k + 3 ≤ 601024 ∧ u + 1005 ≤ 7293034) (hk23 : ∀ (v1 : Nat) (v2 : Nat) (v3 : Nat) (v4 : Int32) (M : Mem) (r : (Int32 × Mem)), k23 v1 v2 v3 v4 M = some r → G (mi_law L xs) 51 (oI r.1) r.2 23 [some (aR 4000000), some (aR v1), some (aR v2), some (aR v3), some (aI v4), none, none] [] M (k + 3) (u + 1005)) (v1 : Nat) (v2 : Nat) (v3 : Nat) (v4 : Int32) (M : Mem) (r : (Int32 × Mem)) (hf : f_L_law_1788 L xs k23 v1 v2 v3 v4 M = some r) : G (mi_law L xs) 51 (oI r.1) r.2 1788 [some (aR 4000000), some (aR v1), some (aR v2), some (aR v3), some (aI v4), none, none] [] M (k + 3) (u + 18) := by
  unfold f_L_law_1788 at hf
  refine g_goto (pc' := 1908) dL_law_1788 (by decide) ?_
  refine g_widen (k' := (k + 3)) (u' := (u + 1005)) (by omega) (by omega) ?_
  exact s_L_law_1908 L xs k23 k u hku hk23 v1 v2 v3 v4 M _ hf
set_option maxRecDepth 100000 in
set_option maxHeartbeats 8000000 in
theorem s_L_law_1696 (L : Nat) (xs : Nat → Int32) (k23 : Nat → Nat → Nat → Int32 → Mem → Option (Int32 × Mem)) (k u : Nat) (hku : k + 3 ≤ 601024 ∧ u + 1005 ≤ 7293034) (hk23 : ∀ (v1 : Nat) (v2 : Nat) (v3 : Nat) (v4 : Int32) (M : Mem) (r : (Int32 × Mem)), k23 v1 v2 v3 v4 M = some r → G (mi_law L xs) 51 (oI r.1) r.2 23 [some (aR 4000000), some (aR v1), some (aR v2), some (aR v3), some (aI v4), none, none] [] M (k + 3) (u + 1005)) (v1 : Nat) (v2 : Nat) (v3 : Nat) (v4 : Int32) (M : Mem) (r : (Int32 × Mem)) (hf : f_L_law_1696 L xs k23 v1 v2 v3 v4 M = some r) : G (mi_law L xs) 51 (oI r.1) r.2 1696 [some (aR 4000000), some (aR v1), some (aR v2), some (aR v3), some (aI v4), none, none] [] M (k + 3) (u + 17) := by
  unfold f_L_law_1696 at hf
  refine g_goto (pc' := 1908) dL_law_1696 (by decide) ?_
  refine g_widen (k' := (k + 3)) (u' := (u + 1005)) (by omega) (by omega) ?_
  exact s_L_law_1908 L xs k23 k u hku hk23 v1 v2 v3 v4 M _ hf
set_option maxRecDepth 100000 in
set_option maxHeartbeats 8000000 in
theorem s_L_law_1603 (L : Nat) (xs : Nat → Int32) (k23 : Nat → Nat → Nat → Int32 → Mem → Option (Int32 × Mem)) (k u : Nat) (hku : k + 3 ≤ 601024 ∧ u + 1005 ≤ 7293034) (hk23 : ∀ (v1 : Nat) (v2 : Nat) (v3 : Nat) (v4 : Int32) (M : Mem) (r : (Int32 × Mem)), k23 v1 v2 v3 v4 M = some r → G (mi_law L xs) 51 (oI r.1) r.2 23 [some (aR 4000000), some (aR v1), some (aR v2), some (aR v3), some (aI v4), none, none] [] M (k + 3) (u + 1005)) (v1 : Nat) (v2 : Nat) (v3 : Nat) (v4 : Int32) (M : Mem) (r : (Int32 × Mem)) (hf : f_L_law_1603 L xs k23 v1 v2 v3 v4 M = some r) : G (mi_law L xs) 51 (oI r.1) r.2 1603 [some (aR 4000000), some (aR v1), some (aR v2), some (aR v3), some (aI v4), none, none] [] M (k + 2) (u + 12) := by
  unfold f_L_law_1603 at hf
  refine g_goto (pc' := 1908) dL_law_1603 (by decide) ?_
  refine g_widen (k' := (k + 3)) (u' := (u + 1005)) (by omega) (by omega) ?_
  exact s_L_law_1908 L xs k23 k u hku hk23 v1 v2 v3 v4 M _ hf
set_option maxRecDepth 100000 in
set_option maxHeartbeats 8000000 in
theorem s_L_law_1535 (L : Nat) (xs : Nat → Int32) (k23 : Nat → Nat → Nat → Int32 → Mem → Option (Int32 × Mem)) (k u : Nat) (hku : k + 3 ≤ 601024 ∧ u + 1005 ≤ 7293034) (hk23 : ∀ (v1 : Nat) (v2 : Nat) (v3 : Nat) (v4 : Int32) (M : Mem) (r : (Int32 × Mem)), k23 v1 v2 v3 v4 M = some r → G (mi_law L xs) 51 (oI r.1) r.2 23 [some (aR 4000000), some (aR v1), some (aR v2), some (aR v3), some (aI v4), none, none] [] M (k + 3) (u + 1005)) (v1 : Nat) (v2 : Nat) (v3 : Nat) (v4 : Int32) (M : Mem) (r : (Int32 × Mem)) (hf : f_L_law_1535 L xs k23 v1 v2 v3 v4 M = some r) : G (mi_law L xs) 51 (oI r.1) r.2 1535 [some (aR 4000000), some (aR v1), some (aR v2), some (aR v3), some (aI v4), none, none] [] M (k + 2) (u + 12) := by
  unfold f_L_law_1535 at hf
  refine g_goto (pc' := 1908) dL_law_1535 (by decide) ?_
  refine g_widen (k' := (k + 3)) (u' := (u + 1005)) (by omega) (by omega) ?_
  exact s_L_law_1908 L xs k23 k u hku hk23 v1 v2 v3 v4 M _ hf
set_option maxRecDepth 100000 in
set_option maxHeartbeats 8000000 in
theorem s_L_law_1467 (L : Nat) (xs : Nat → Int32) (k23 : Nat → Nat → Nat → Int32 → Mem → Option (Int32 × Mem)) (k u : Nat) (hku : k + 3 ≤ 601024 ∧ u + 1005 ≤ 7293034) (hk23 : ∀ (v1 : Nat) (v2 : Nat) (v3 : Nat) (v4 : Int32) (M : Mem) (r : (Int32 × Mem)), k23 v1 v2 v3 v4 M = some r → G (mi_law L xs) 51 (oI r.1) r.2 23 [some (aR 4000000), some (aR v1), some (aR v2), some (aR v3), some (aI v4), none, none] [] M (k + 3) (u + 1005)) (v1 : Nat) (v2 : Nat) (v3 : Nat) (v4 : Int32) (M : Mem) (r : (Int32 × Mem)) (hf : f_L_law_1467 L xs k23 v1 v2 v3 v4 M = some r) : G (mi_law L xs) 51 (oI r.1) r.2 1467 [some (aR 4000000), some (aR v1), some (aR v2), some (aR v3), some (aI v4), none, none] [] M (k + 2) (u + 12) := by
  unfold f_L_law_1467 at hf
  refine g_goto (pc' := 1908) dL_law_1467 (by decide) ?_
  refine g_widen (k' := (k + 3)) (u' := (u + 1005)) (by omega) (by omega) ?_
  exact s_L_law_1908 L xs k23 k u hku hk23 v1 v2 v3 v4 M _ hf
set_option maxRecDepth 100000 in
set_option maxHeartbeats 8000000 in
theorem s_L_law_1387 (L : Nat) (xs : Nat → Int32) (k23 : Nat → Nat → Nat → Int32 → Mem → Option (Int32 × Mem)) (k u : Nat) (hku : k + 3 ≤ 601024 ∧ u + 1005 ≤ 7293034) (hk23 : ∀ (v1 : Nat) (v2 : Nat) (v3 : Nat) (v4 : Int32) (M : Mem) (r : (Int32 × Mem)), k23 v1 v2 v3 v4 M = some r → G (mi_law L xs) 51 (oI r.1) r.2 23 [some (aR 4000000), some (aR v1), some (aR v2), some (aR v3), some (aI v4), none, none] [] M (k + 3) (u + 1005)) (v1 : Nat) (v2 : Nat) (v3 : Nat) (v4 : Int32) (M : Mem) (r : (Int32 × Mem)) (hf : f_L_law_1387 L xs k23 v1 v2 v3 v4 M = some r) : G (mi_law L xs) 51 (oI r.1) r.2 1387 [some (aR 4000000), some (aR v1), some (aR v2), some (aR v3), some (aI v4), none, none] [] M (k + 2) (u + 12) := by
  unfold f_L_law_1387 at hf
  refine g_goto (pc' := 1908) dL_law_1387 (by decide) ?_
  refine g_widen (k' := (k + 3)) (u' := (u + 1005)) (by omega) (by omega) ?_
  exact s_L_law_1908 L xs k23 k u hku hk23 v1 v2 v3 v4 M _ hf
set_option maxRecDepth 100000 in
set_option maxHeartbeats 8000000 in
theorem s_L_law_1319 (L : Nat) (xs : Nat → Int32) (k23 : Nat → Nat → Nat → Int32 → Mem → Option (Int32 × Mem)) (k u : Nat) (hku : k + 3 ≤ 601024 ∧ u + 1005 ≤ 7293034) (hk23 : ∀ (v1 : Nat) (v2 : Nat) (v3 : Nat) (v4 : Int32) (M : Mem) (r : (Int32 × Mem)), k23 v1 v2 v3 v4 M = some r → G (mi_law L xs) 51 (oI r.1) r.2 23 [some (aR 4000000), some (aR v1), some (aR v2), some (aR v3), some (aI v4), none, none] [] M (k + 3) (u + 1005)) (v1 : Nat) (v2 : Nat) (v3 : Nat) (v4 : Int32) (M : Mem) (r : (Int32 × Mem)) (hf : f_L_law_1319 L xs k23 v1 v2 v3 v4 M = some r) : G (mi_law L xs) 51 (oI r.1) r.2 1319 [some (aR 4000000), some (aR v1), some (aR v2), some (aR v3), some (aI v4), none, none] [] M (k + 2) (u + 12) := by
  unfold f_L_law_1319 at hf
  refine g_goto (pc' := 1908) dL_law_1319 (by decide) ?_
  refine g_widen (k' := (k + 3)) (u' := (u + 1005)) (by omega) (by omega) ?_
  exact s_L_law_1908 L xs k23 k u hku hk23 v1 v2 v3 v4 M _ hf
set_option maxRecDepth 100000 in
set_option maxHeartbeats 8000000 in
theorem s_L_law_1251 (L : Nat) (xs : Nat → Int32) (k23 : Nat → Nat → Nat → Int32 → Mem → Option (Int32 × Mem)) (k u : Nat) (hku : k + 3 ≤ 601024 ∧ u + 1005 ≤ 7293034) (hk23 : ∀ (v1 : Nat) (v2 : Nat) (v3 : Nat) (v4 : Int32) (M : Mem) (r : (Int32 × Mem)), k23 v1 v2 v3 v4 M = some r → G (mi_law L xs) 51 (oI r.1) r.2 23 [some (aR 4000000), some (aR v1), some (aR v2), some (aR v3), some (aI v4), none, none] [] M (k + 3) (u + 1005)) (v1 : Nat) (v2 : Nat) (v3 : Nat) (v4 : Int32) (M : Mem) (r : (Int32 × Mem)) (hf : f_L_law_1251 L xs k23 v1 v2 v3 v4 M = some r) : G (mi_law L xs) 51 (oI r.1) r.2 1251 [some (aR 4000000), some (aR v1), some (aR v2), some (aR v3), some (aI v4), none, none] [] M (k + 1) (u + 6) := by
  unfold f_L_law_1251 at hf
  refine g_goto (pc' := 1908) dL_law_1251 (by decide) ?_
  refine g_widen (k' := (k + 3)) (u' := (u + 1005)) (by omega) (by omega) ?_
  exact s_L_law_1908 L xs k23 k u hku hk23 v1 v2 v3 v4 M _ hf
set_option maxRecDepth 100000 in
set_option maxHeartbeats 8000000 in
theorem s_L_law_1195 (L : Nat) (xs : Nat → Int32) (k23 : Nat → Nat → Nat → Int32 → Mem → Option (Int32 × Mem)) (k u : Nat) (hku : k + 3 ≤ 601024 ∧ u + 1005 ≤ 7293034) (hk23 : ∀ (v1 : Nat) (v2 : Nat) (v3 : Nat) (v4 : Int32) (M : Mem) (r : (Int32 × Mem)), k23 v1 v2 v3 v4 M = some r → G (mi_law L xs) 51 (oI r.1) r.2 23 [some (aR 4000000), some (aR v1), some (aR v2), some (aR v3), some (aI v4), none, none] [] M (k + 3) (u + 1005)) (v1 : Nat) (v2 : Nat) (v3 : Nat) (v4 : Int32) (M : Mem) (r : (Int32 × Mem)) (hf : f_L_law_1195 L xs k23 v1 v2 v3 v4 M = some r) : G (mi_law L xs) 51 (oI r.1) r.2 1195 [some (aR 4000000), some (aR v1), some (aR v2), some (aR v3), some (aI v4), none, none] [] M (k + 2) (u + 12) := by
  unfold f_L_law_1195 at hf
  refine g_goto (pc' := 1908) dL_law_1195 (by decide) ?_
  refine g_widen (k' := (k + 3)) (u' := (u + 1005)) (by omega) (by omega) ?_
  exact s_L_law_1908 L xs k23 k u hku hk23 v1 v2 v3 v4 M _ hf
set_option maxRecDepth 100000 in
set_option maxHeartbeats 8000000 in
theorem s_L_law_1127 (L : Nat) (xs : Nat → Int32) (k23 : Nat → Nat → Nat → Int32 → Mem → Option (Int32 × Mem)) (k u : Nat) (hku : k + 3 ≤ 601024 ∧ u + 1005 ≤ 7293034) (hk23 : ∀ (v1 : Nat) (v2 : Nat) (v3 : Nat) (v4 : Int32) (M : Mem) (r : (Int32 × Mem)), k23 v1 v2 v3 v4 M = some r → G (mi_law L xs) 51 (oI r.1) r.2 23 [some (aR 4000000), some (aR v1), some (aR v2), some (aR v3), some (aI v4), none, none] [] M (k + 3) (u + 1005)) (v1 : Nat) (v2 : Nat) (v3 : Nat) (v4 : Int32) (M : Mem) (r : (Int32 × Mem)) (hf : f_L_law_1127 L xs k23 v1 v2 v3 v4 M = some r) : G (mi_law L xs) 51 (oI r.1) r.2 1127 [some (aR 4000000), some (aR v1), some (aR v2), some (aR v3), some (aI v4), none, none] [] M (k + 3) (u + 18) := by
  unfold f_L_law_1127 at hf
  refine g_goto (pc' := 1908) dL_law_1127 (by decide) ?_
  refine g_widen (k' := (k + 3)) (u' := (u + 1005)) (by omega) (by omega) ?_
  exact s_L_law_1908 L xs k23 k u hku hk23 v1 v2 v3 v4 M _ hf
set_option maxRecDepth 100000 in
set_option maxHeartbeats 8000000 in
theorem s_L_law_1047 (L : Nat) (xs : Nat → Int32) (k23 : Nat → Nat → Nat → Int32 → Mem → Option (Int32 × Mem)) (k u : Nat) (hku : k + 3 ≤ 601024 ∧ u + 1005 ≤ 7293034) (hk23 : ∀ (v1 : Nat) (v2 : Nat) (v3 : Nat) (v4 : Int32) (M : Mem) (r : (Int32 × Mem)), k23 v1 v2 v3 v4 M = some r → G (mi_law L xs) 51 (oI r.1) r.2 23 [some (aR 4000000), some (aR v1), some (aR v2), some (aR v3), some (aI v4), none, none] [] M (k + 3) (u + 1005)) (v1 : Nat) (v2 : Nat) (v3 : Nat) (v4 : Int32) (M : Mem) (r : (Int32 × Mem)) (hf : f_L_law_1047 L xs k23 v1 v2 v3 v4 M = some r) : G (mi_law L xs) 51 (oI r.1) r.2 1047 [some (aR 4000000), some (aR v1), some (aR v2), some (aR v3), some (aI v4), none, none] [] M (k + 2) (u + 12) := by
  unfold f_L_law_1047 at hf
  refine g_goto (pc' := 1908) dL_law_1047 (by decide) ?_
  refine g_widen (k' := (k + 3)) (u' := (u + 1005)) (by omega) (by omega) ?_
  exact s_L_law_1908 L xs k23 k u hku hk23 v1 v2 v3 v4 M _ hf
set_option maxRecDepth 100000 in
set_option maxHeartbeats 8000000 in
theorem s_L_law_979 (L : Nat) (xs : Nat → Int32) (k23 : Nat → Nat → Nat → Int32 → Mem → Option (Int32 × Mem)) (k u : Nat) (hku : k + 3 ≤ 601024 ∧ u + 1005 ≤ 7293034) (hk23 : ∀ (v1 : Nat) (v2 : Nat) (v3 : Nat) (v4 : Int32) (M : Mem) (r : (Int32 × Mem)), k23 v1 v2 v3 v4 M = some r → G (mi_law L xs) 51 (oI r.1) r.2 23 [some (aR 4000000), some (aR v1), some (aR v2), some (aR v3), some (aI v4), none, none] [] M (k + 3) (u + 1005)) (v1 : Nat) (v2 : Nat) (v3 : Nat) (v4 : Int32) (M : Mem) (r : (Int32 × Mem)) (hf : f_L_law_979 L xs k23 v1 v2 v3 v4 M = some r) : G (mi_law L xs) 51 (oI r.1) r.2 979 [some (aR 4000000), some (aR v1), some (aR v2), some (aR v3), some (aI v4), none, none] [] M (k + 2) (u + 12) := by
  unfold f_L_law_979 at hf
  refine g_goto (pc' := 1908) dL_law_979 (by decide) ?_
  refine g_widen (k' := (k + 3)) (u' := (u + 1005)) (by omega) (by omega) ?_
  exact s_L_law_1908 L xs k23 k u hku hk23 v1 v2 v3 v4 M _ hf
set_option maxRecDepth 100000 in
set_option maxHeartbeats 8000000 in
theorem s_L_law_899 (L : Nat) (xs : Nat → Int32) (k23 : Nat → Nat → Nat → Int32 → Mem → Option (Int32 × Mem)) (k u : Nat) (hku : k + 3 ≤ 601024 ∧ u + 1005 ≤ 7293034) (hk23 : ∀ (v1 : Nat) (v2 : Nat) (v3 : Nat) (v4 : Int32) (M : Mem) (r : (Int32 × Mem)), k23 v1 v2 v3 v4 M = some r → G (mi_law L xs) 51 (oI r.1) r.2 23 [some (aR 4000000), some (aR v1), some (aR v2), some (aR v3), some (aI v4), none, none] [] M (k + 3) (u + 1005)) (v1 : Nat) (v2 : Nat) (v3 : Nat) (v4 : Int32) (M : Mem) (r : (Int32 × Mem)) (hf : f_L_law_899 L xs k23 v1 v2 v3 v4 M = some r) : G (mi_law L xs) 51 (oI r.1) r.2 899 [some (aR 4000000), some (aR v1), some (aR v2), some (aR v3), some (aI v4), none, none] [] M (k + 3) (u + 18) := by
  unfold f_L_law_899 at hf
  refine g_goto (pc' := 1908) dL_law_899 (by decide) ?_
  refine g_widen (k' := (k + 3)) (u' := (u + 1005)) (by omega) (by omega) ?_
  exact s_L_law_1908 L xs k23 k u hku hk23 v1 v2 v3 v4 M _ hf
set_option maxRecDepth 100000 in
set_option maxHeartbeats 8000000 in
theorem s_L_law_819 (L : Nat) (xs : Nat → Int32) (k23 : Nat → Nat → Nat → Int32 → Mem → Option (Int32 × Mem)) (k u : Nat) (hku : k + 3 ≤ 601024 ∧ u + 1005 ≤ 7293034) (hk23 : ∀ (v1 : Nat) (v2 : Nat) (v3 : Nat) (v4 : Int32) (M : Mem) (r : (Int32 × Mem)), k23 v1 v2 v3 v4 M = some r → G (mi_law L xs) 51 (oI r.1) r.2 23 [some (aR 4000000), some (aR v1), some (aR v2), some (aR v3), some (aI v4), none, none] [] M (k + 3) (u + 1005)) (v1 : Nat) (v2 : Nat) (v3 : Nat) (v4 : Int32) (M : Mem) (r : (Int32 × Mem)) (hf : f_L_law_819 L xs k23 v1 v2 v3 v4 M = some r) : G (mi_law L xs) 51 (oI r.1) r.2 819 [some (aR 4000000), some (aR v1), some (aR v2), some (aR v3), some (aI v4), none, none] [] M (k + 3) (u + 18) := by
  unfold f_L_law_819 at hf
  refine g_goto (pc' := 1908) dL_law_819 (by decide) ?_
  refine g_widen (k' := (k + 3)) (u' := (u + 1005)) (by omega) (by omega) ?_
  exact s_L_law_1908 L xs k23 k u hku hk23 v1 v2 v3 v4 M _ hf
set_option maxRecDepth 100000 in
set_option maxHeartbeats 8000000 in
theorem s_L_law_739 (L : Nat) (xs : Nat → Int32) (k23 : Nat → Nat → Nat → Int32 → Mem → Option (Int32 × Mem)) (k u : Nat) (hku : k + 3 ≤ 601024 ∧ u + 1005 ≤ 7293034) (hk23 : ∀ (v1 : Nat) (v2 : Nat) (v3 : Nat) (v4 : Int32) (M : Mem) (r : (Int32 × Mem)), k23 v1 v2 v3 v4 M = some r → G (mi_law L xs) 51 (oI r.1) r.2 23 [some (aR 4000000), some (aR v1), some (aR v2), some (aR v3), some (aI v4), none, none] [] M (k + 3) (u + 1005)) (v1 : Nat) (v2 : Nat) (v3 : Nat) (v4 : Int32) (M : Mem) (r : (Int32 × Mem)) (hf : f_L_law_739 L xs k23 v1 v2 v3 v4 M = some r) : G (mi_law L xs) 51 (oI r.1) r.2 739 [some (aR 4000000), some (aR v1), some (aR v2), some (aR v3), some (aI v4), none, none] [] M (k + 2) (u + 12) := by
  unfold f_L_law_739 at hf
  refine g_goto (pc' := 1908) dL_law_739 (by decide) ?_
  refine g_widen (k' := (k + 3)) (u' := (u + 1005)) (by omega) (by omega) ?_
  exact s_L_law_1908 L xs k23 k u hku hk23 v1 v2 v3 v4 M _ hf
set_option maxRecDepth 100000 in
set_option maxHeartbeats 8000000 in
theorem s_L_law_671 (L : Nat) (xs : Nat → Int32) (k23 : Nat → Nat → Nat → Int32 → Mem → Option (Int32 × Mem)) (k u : Nat) (hku : k + 3 ≤ 601024 ∧ u + 1005 ≤ 7293034) (hk23 : ∀ (v1 : Nat) (v2 : Nat) (v3 : Nat) (v4 : Int32) (M : Mem) (r : (Int32 × Mem)), k23 v1 v2 v3 v4 M = some r → G (mi_law L xs) 51 (oI r.1) r.2 23 [some (aR 4000000), some (aR v1), some (aR v2), some (aR v3), some (aI v4), none, none] [] M (k + 3) (u + 1005)) (v1 : Nat) (v2 : Nat) (v3 : Nat) (v4 : Int32) (M : Mem) (r : (Int32 × Mem)) (hf : f_L_law_671 L xs k23 v1 v2 v3 v4 M = some r) : G (mi_law L xs) 51 (oI r.1) r.2 671 [some (aR 4000000), some (aR v1), some (aR v2), some (aR v3), some (aI v4), none, none] [] M (k + 2) (u + 12) := by
  unfold f_L_law_671 at hf
  refine g_goto (pc' := 1908) dL_law_671 (by decide) ?_
  refine g_widen (k' := (k + 3)) (u' := (u + 1005)) (by omega) (by omega) ?_
  exact s_L_law_1908 L xs k23 k u hku hk23 v1 v2 v3 v4 M _ hf
set_option maxRecDepth 100000 in
set_option maxHeartbeats 8000000 in
theorem s_L_law_603 (L : Nat) (xs : Nat → Int32) (k23 : Nat → Nat → Nat → Int32 → Mem → Option (Int32 × Mem)) (k u : Nat) (hku : k + 3 ≤ 601024 ∧ u + 1005 ≤ 7293034) (hk23 : ∀ (v1 : Nat) (v2 : Nat) (v3 : Nat) (v4 : Int32) (M : Mem) (r : (Int32 × Mem)), k23 v1 v2 v3 v4 M = some r → G (mi_law L xs) 51 (oI r.1) r.2 23 [some (aR 4000000), some (aR v1), some (aR v2), some (aR v3), some (aI v4), none, none] [] M (k + 3) (u + 1005)) (v1 : Nat) (v2 : Nat) (v3 : Nat) (v4 : Int32) (M : Mem) (r : (Int32 × Mem)) (hf : f_L_law_603 L xs k23 v1 v2 v3 v4 M = some r) : G (mi_law L xs) 51 (oI r.1) r.2 603 [some (aR 4000000), some (aR v1), some (aR v2), some (aR v3), some (aI v4), none, none] [] M (k + 2) (u + 12) := by
  unfold f_L_law_603 at hf
  refine g_goto (pc' := 1908) dL_law_603 (by decide) ?_
  refine g_widen (k' := (k + 3)) (u' := (u + 1005)) (by omega) (by omega) ?_
  exact s_L_law_1908 L xs k23 k u hku hk23 v1 v2 v3 v4 M _ hf
set_option maxRecDepth 100000 in
set_option maxHeartbeats 8000000 in
theorem s_L_law_535 (L : Nat) (xs : Nat → Int32) (k23 : Nat → Nat → Nat → Int32 → Mem → Option (Int32 × Mem)) (k u : Nat) (hku : k + 3 ≤ 601024 ∧ u + 1005 ≤ 7293034) (hk23 : ∀ (v1 : Nat) (v2 : Nat) (v3 : Nat) (v4 : Int32) (M : Mem) (r : (Int32 × Mem)), k23 v1 v2 v3 v4 M = some r → G (mi_law L xs) 51 (oI r.1) r.2 23 [some (aR 4000000), some (aR v1), some (aR v2), some (aR v3), some (aI v4), none, none] [] M (k + 3) (u + 1005)) (v1 : Nat) (v2 : Nat) (v3 : Nat) (v4 : Int32) (M : Mem) (r : (Int32 × Mem)) (hf : f_L_law_535 L xs k23 v1 v2 v3 v4 M = some r) : G (mi_law L xs) 51 (oI r.1) r.2 535 [some (aR 4000000), some (aR v1), some (aR v2), some (aR v3), some (aI v4), none, none] [] M (k + 1) (u + 6) := by
  unfold f_L_law_535 at hf
  refine g_goto (pc' := 1908) dL_law_535 (by decide) ?_
  refine g_widen (k' := (k + 3)) (u' := (u + 1005)) (by omega) (by omega) ?_
  exact s_L_law_1908 L xs k23 k u hku hk23 v1 v2 v3 v4 M _ hf
set_option maxRecDepth 100000 in
set_option maxHeartbeats 8000000 in
theorem s_L_law_466 (L : Nat) (xs : Nat → Int32) (k23 : Nat → Nat → Nat → Int32 → Mem → Option (Int32 × Mem)) (k u : Nat) (hku : k + 3 ≤ 601024 ∧ u + 1005 ≤ 7293034) (hk23 : ∀ (v1 : Nat) (v2 : Nat) (v3 : Nat) (v4 : Int32) (M : Mem) (r : (Int32 × Mem)), k23 v1 v2 v3 v4 M = some r → G (mi_law L xs) 51 (oI r.1) r.2 23 [some (aR 4000000), some (aR v1), some (aR v2), some (aR v3), some (aI v4), none, none] [] M (k + 3) (u + 1005)) (v1 : Nat) (v2 : Nat) (v3 : Nat) (v4 : Int32) (M : Mem) (r : (Int32 × Mem)) (hf : f_L_law_466 L xs k23 v1 v2 v3 v4 M = some r) : G (mi_law L xs) 51 (oI r.1) r.2 466 [some (aR 4000000), some (aR v1), some (aR v2), some (aR v3), some (aI v4), none, none] [] M (k + 1) (u + 6) := by
  unfold f_L_law_466 at hf
  refine g_goto (pc' := 1908) dL_law_466 (by decide) ?_
  refine g_widen (k' := (k + 3)) (u' := (u + 1005)) (by omega) (by omega) ?_
  exact s_L_law_1908 L xs k23 k u hku hk23 v1 v2 v3 v4 M _ hf
set_option maxRecDepth 100000 in
set_option maxHeartbeats 8000000 in
theorem s_L_law_410 (L : Nat) (xs : Nat → Int32) (k23 : Nat → Nat → Nat → Int32 → Mem → Option (Int32 × Mem)) (k u : Nat) (hku : k + 3 ≤ 601024 ∧ u + 1005 ≤ 7293034) (hk23 : ∀ (v1 : Nat) (v2 : Nat) (v3 : Nat) (v4 : Int32) (M : Mem) (r : (Int32 × Mem)), k23 v1 v2 v3 v4 M = some r → G (mi_law L xs) 51 (oI r.1) r.2 23 [some (aR 4000000), some (aR v1), some (aR v2), some (aR v3), some (aI v4), none, none] [] M (k + 3) (u + 1005)) (v1 : Nat) (v2 : Nat) (v3 : Nat) (v4 : Int32) (M : Mem) (r : (Int32 × Mem)) (hf : f_L_law_410 L xs k23 v1 v2 v3 v4 M = some r) : G (mi_law L xs) 51 (oI r.1) r.2 410 [some (aR 4000000), some (aR v1), some (aR v2), some (aR v3), some (aI v4), none, none] [] M (k + 1) (u + 6) := by
  unfold f_L_law_410 at hf
  refine g_goto (pc' := 1908) dL_law_410 (by decide) ?_
  refine g_widen (k' := (k + 3)) (u' := (u + 1005)) (by omega) (by omega) ?_
  exact s_L_law_1908 L xs k23 k u hku hk23 v1 v2 v3 v4 M _ hf
set_option maxRecDepth 100000 in
set_option maxHeartbeats 8000000 in
theorem s_L_law_354 (L : Nat) (xs : Nat → Int32) (k23 : Nat → Nat → Nat → Int32 → Mem → Option (Int32 × Mem)) (k u : Nat) (hku : k + 3 ≤ 601024 ∧ u + 1005 ≤ 7293034) (hk23 : ∀ (v1 : Nat) (v2 : Nat) (v3 : Nat) (v4 : Int32) (M : Mem) (r : (Int32 × Mem)), k23 v1 v2 v3 v4 M = some r → G (mi_law L xs) 51 (oI r.1) r.2 23 [some (aR 4000000), some (aR v1), some (aR v2), some (aR v3), some (aI v4), none, none] [] M (k + 3) (u + 1005)) (v1 : Nat) (v2 : Nat) (v3 : Nat) (v4 : Int32) (M : Mem) (r : (Int32 × Mem)) (hf : f_L_law_354 L xs k23 v1 v2 v3 v4 M = some r) : G (mi_law L xs) 51 (oI r.1) r.2 354 [some (aR 4000000), some (aR v1), some (aR v2), some (aR v3), some (aI v4), none, none] [] M (k + 2) (u + 11) := by
  unfold f_L_law_354 at hf
  refine g_goto (pc' := 1908) dL_law_354 (by decide) ?_
  refine g_widen (k' := (k + 3)) (u' := (u + 1005)) (by omega) (by omega) ?_
  exact s_L_law_1908 L xs k23 k u hku hk23 v1 v2 v3 v4 M _ hf
set_option maxRecDepth 100000 in
set_option maxHeartbeats 8000000 in
theorem s_L_law_298 (L : Nat) (xs : Nat → Int32) (k23 : Nat → Nat → Nat → Int32 → Mem → Option (Int32 × Mem)) (k u : Nat) (hku : k + 3 ≤ 601024 ∧ u + 1005 ≤ 7293034) (hk23 : ∀ (v1 : Nat) (v2 : Nat) (v3 : Nat) (v4 : Int32) (M : Mem) (r : (Int32 × Mem)), k23 v1 v2 v3 v4 M = some r → G (mi_law L xs) 51 (oI r.1) r.2 23 [some (aR 4000000), some (aR v1), some (aR v2), some (aR v3), some (aI v4), none, none] [] M (k + 3) (u + 1005)) (v1 : Nat) (v2 : Nat) (v3 : Nat) (v4 : Int32) (M : Mem) (r : (Int32 × Mem)) (hf : f_L_law_298 L xs k23 v1 v2 v3 v4 M = some r) : G (mi_law L xs) 51 (oI r.1) r.2 298 [some (aR 4000000), some (aR v1), some (aR v2), some (aR v3), some (aI v4), none, none] [] M (k + 1) (u + 6) := by
  unfold f_L_law_298 at hf
  refine g_goto (pc' := 1908) dL_law_298 (by decide) ?_
  refine g_widen (k' := (k + 3)) (u' := (u + 1005)) (by omega) (by omega) ?_
  exact s_L_law_1908 L xs k23 k u hku hk23 v1 v2 v3 v4 M _ hf
set_option maxRecDepth 100000 in
set_option maxHeartbeats 8000000 in
theorem s_L_law_23 (L : Nat) (xs : Nat → Int32) : ∀ (n k u : Nat) (v1 : Nat) (v2 : Nat) (v3 : Nat) (v4 : Int32) (M : Mem) (r : (Int32 × Mem)), k + 3 * n ≤ 601024 ∧ u + 1005 * n ≤ 7293034 → f_L_law_23 L xs n v1 v2 v3 v4 M = some r → G (mi_law L xs) 51 (oI r.1) r.2 23 [some (aR 4000000), some (aR v1), some (aR v2), some (aR v3), some (aI v4), none, none] [] M k u := by
  intro n
  induction n with
  | zero => intro k u v1 v2 v3 v4 M r hku hf; cases hf
  | succ n ih =>
    intro k u v1 v2 v3 v4 M r hku hf
    unfold f_L_law_23 at hf
    refine g_iload (pc' := 25) dL_law_23 rfl rfl ?_
    refine g_aload_n (pc' := 26) dL_law_25 rfl rfl ?_
    refine g_scrLen (pc' := 27) rfl dL_law_26 rfl ?_
    refine g_bipush (pc' := 29) (6 : Int32) dL_law_27 rfl (by decide) ?_
    refine g_isub (pc' := 30) dL_law_29 rfl ?_
    refine g_icmp_gt (pc' := 33) 1914 dL_law_30 rfl (by decide) (fun c1 => ?_) (fun c1 => ?_)
    · have hf := ite_t c1 hf
      refine g_iconst (pc' := 1915) (1 : Int32) dL_law_1914 rfl (by decide) ?_
      cases hf
      exact g_zreturn dL_law_1915 rfl (Or.inr rfl) (by show k ≤ 601024; omega) (by show u ≤ 7293034; omega)
    · have hf := ite_f c1 hf
      refine g_aload_n (pc' := 34) dL_law_33 rfl rfl ?_
      refine g_iload (pc' := 36) dL_law_34 rfl rfl ?_
      obtain ⟨b2, hf⟩ := chk_s hf
      refine g_scrAt (pc' := 37) rfl dL_law_36 rfl (inB_in b2) ?_
      refine g_bipush (pc' := 39) (31 : Int32) dL_law_37 rfl (by decide) ?_
      refine g_iand (pc' := 40) dL_law_39 rfl ?_
      by_cases c3 : ((xs v4.toNatClampNeg) &&& (31 : Int32)) = (0 : Int32)
      · have hf := ite_t c3 hf
        refine g_tsw (pc' := 172) (0 : Int32) dL_law_40 c3 (by decide) (by decide) rfl (by decide) ?_
        refine g_aload_n (pc' := 173) dL_law_172 rfl rfl ?_
        refine g_aload_n (pc' := 174) dL_law_173 rfl rfl ?_
        refine g_iload (pc' := 176) dL_law_174 rfl rfl ?_
        refine g_iconst (pc' := 177) (1 : Int32) dL_law_176 rfl (by decide) ?_
        refine g_iadd (pc' := 178) dL_law_177 rfl ?_
        obtain ⟨b4, hf⟩ := chk_s hf
        refine g_scrAt (pc' := 179) rfl dL_law_178 rfl (inB_in b4) ?_
        refine g_aload_n (pc' := 180) dL_law_179 rfl rfl ?_
        refine g_iload (pc' := 182) dL_law_180 rfl rfl ?_
        refine g_iconst (pc' := 183) (2 : Int32) dL_law_182 rfl (by decide) ?_
        refine g_iadd (pc' := 184) dL_law_183 rfl ?_
        obtain ⟨b5, hf⟩ := chk_s hf
        refine g_scrAt (pc' := 185) rfl dL_law_184 rfl (inB_in b5) ?_
        refine g_aload_n (pc' := 186) dL_law_185 rfl rfl ?_
        refine g_iload (pc' := 188) dL_law_186 rfl rfl ?_
        refine g_iconst (pc' := 189) (3 : Int32) dL_law_188 rfl (by decide) ?_
        refine g_iadd (pc' := 190) dL_law_189 rfl ?_
        obtain ⟨b6, hf⟩ := chk_s hf
        refine g_scrAt (pc' := 191) rfl dL_law_190 rfl (inB_in b6) ?_
        refine g_aload_n (pc' := 192) dL_law_191 rfl rfl ?_
        refine g_iload (pc' := 194) dL_law_192 rfl rfl ?_
        refine g_iconst (pc' := 195) (4 : Int32) dL_law_194 rfl (by decide) ?_
        refine g_iadd (pc' := 196) dL_law_195 rfl ?_
        obtain ⟨b7, hf⟩ := chk_s hf
        refine g_scrAt (pc' := 197) rfl dL_law_196 rfl (inB_in b7) ?_
        refine g_aload_n (pc' := 198) dL_law_197 rfl rfl ?_
        refine g_iload (pc' := 200) dL_law_198 rfl rfl ?_
        refine g_iconst (pc' := 201) (5 : Int32) dL_law_200 rfl (by decide) ?_
        refine g_iadd (pc' := 202) dL_law_201 rfl ?_
        obtain ⟨b8, hf⟩ := chk_s hf
        refine g_scrAt (pc' := 203) rfl dL_law_202 rfl (inB_in b8) ?_
        obtain ⟨h9, hf⟩ := chk_s hf
        obtain ⟨r11, M10, e11, hf⟩ := bnd_some hf
        refine g_callVi (pc' := 206) (k' := k) (u' := u) (fr2 := 2) (As := [aI (xs (v4 + (1 : Int32)).toNatClampNeg), aI (xs (v4 + (2 : Int32)).toNatClampNeg), aI (xs (v4 + (3 : Int32)).toNatClampNeg), aI (xs (v4 + (4 : Int32)).toNatClampNeg), aI (xs (v4 + (5 : Int32)).toNatClampNeg)]) (b := v1) (st := []) cf_X11_feed q_153 (by omega) (ci := 11) rfl rfl (by decide) dL_law_203 rfl rfl rfl (Nat.le_of_ble_eq_true rfl) (Or.inl rfl) (by show k + 0 ≤ k; omega) (by show u + 0 ≤ u; omega) (by show k ≤ 601024; omega) (by show u ≤ 7293034; omega) h9 (s_X11_feed v1 (xs (v4 + (1 : Int32)).toNatClampNeg) (xs (v4 + (2 : Int32)).toNatClampNeg) (xs (v4 + (3 : Int32)).toNatClampNeg) (xs (v4 + (4 : Int32)).toNatClampNeg) (xs (v4 + (5 : Int32)).toNatClampNeg) M _ e11) ?_
        refine g_aload_n (pc' := 207) dL_law_206 rfl rfl ?_
        refine g_aload_n (pc' := 208) dL_law_207 rfl rfl ?_
        refine g_iload (pc' := 210) dL_law_208 rfl rfl ?_
        refine g_iconst (pc' := 211) (1 : Int32) dL_law_210 rfl (by decide) ?_
        refine g_iadd (pc' := 212) dL_law_211 rfl ?_
        obtain ⟨b12, hf⟩ := chk_s hf
        refine g_scrAt (pc' := 213) rfl dL_law_212 rfl (inB_in b12) ?_
        refine g_aload_n (pc' := 214) dL_law_213 rfl rfl ?_
        refine g_iload (pc' := 216) dL_law_214 rfl rfl ?_
        refine g_iconst (pc' := 217) (2 : Int32) dL_law_216 rfl (by decide) ?_
        refine g_iadd (pc' := 218) dL_law_217 rfl ?_
        obtain ⟨b13, hf⟩ := chk_s hf
        refine g_scrAt (pc' := 219) rfl dL_law_218 rfl (inB_in b13) ?_
        refine g_aload_n (pc' := 220) dL_law_219 rfl rfl ?_
        refine g_iload (pc' := 222) dL_law_220 rfl rfl ?_
        refine g_iconst (pc' := 223) (3 : Int32) dL_law_222 rfl (by decide) ?_
        refine g_iadd (pc' := 224) dL_law_223 rfl ?_
        obtain ⟨b14, hf⟩ := chk_s hf
        refine g_scrAt (pc' := 225) rfl dL_law_224 rfl (inB_in b14) ?_
        refine g_aload_n (pc' := 226) dL_law_225 rfl rfl ?_
        refine g_iload (pc' := 228) dL_law_226 rfl rfl ?_
        refine g_iconst (pc' := 229) (4 : Int32) dL_law_228 rfl (by decide) ?_
        refine g_iadd (pc' := 230) dL_law_229 rfl ?_
        obtain ⟨b15, hf⟩ := chk_s hf
        refine g_scrAt (pc' := 231) rfl dL_law_230 rfl (inB_in b15) ?_
        refine g_aload_n (pc' := 232) dL_law_231 rfl rfl ?_
        refine g_iload (pc' := 234) dL_law_232 rfl rfl ?_
        refine g_iconst (pc' := 235) (5 : Int32) dL_law_234 rfl (by decide) ?_
        refine g_iadd (pc' := 236) dL_law_235 rfl ?_
        obtain ⟨b16, hf⟩ := chk_s hf
        refine g_scrAt (pc' := 237) rfl dL_law_236 rfl (inB_in b16) ?_
        obtain ⟨h17, hf⟩ := chk_s hf
        obtain ⟨r19, M18, e19, hf⟩ := bnd_some hf
        refine g_callVi (pc' := 240) (k' := k) (u' := u) (fr2 := 1) (As := [aI (xs (v4 + (1 : Int32)).toNatClampNeg), aI (xs (v4 + (2 : Int32)).toNatClampNeg), aI (xs (v4 + (3 : Int32)).toNatClampNeg), aI (xs (v4 + (4 : Int32)).toNatClampNeg), aI (xs (v4 + (5 : Int32)).toNatClampNeg)]) (b := v2) (st := [aI r11]) cf_X12_feed q_163 (by omega) (ci := 12) rfl rfl (by decide) dL_law_237 rfl rfl rfl (Nat.le_of_ble_eq_true rfl) (Or.inl rfl) (by show k + 0 ≤ k; omega) (by show u + 0 ≤ u; omega) (by show k ≤ 601024; omega) (by show u ≤ 7293034; omega) h17 (s_X12_feed v2 (xs (v4 + (1 : Int32)).toNatClampNeg) (xs (v4 + (2 : Int32)).toNatClampNeg) (xs (v4 + (3 : Int32)).toNatClampNeg) (xs (v4 + (4 : Int32)).toNatClampNeg) (xs (v4 + (5 : Int32)).toNatClampNeg) M10 _ e19) ?_
        refine g_icmp_eq (pc' := 243) 1908 dL_law_240 rfl (by decide) (fun c20 => ?_) (fun c20 => ?_)
        · have hf := ite_t c20 hf
          refine g_widen (k' := (k + 3)) (u' := (u + 1005)) (by omega) (by omega) ?_
          exact s_L_law_1908 L xs (f_L_law_23 L xs n) k u (by omega) (fun v1 v2 v3 v4 M r hf => ih (k + 3) (u + 1005) v1 v2 v3 v4 M r (by omega) hf) v1 v2 v3 v4 M18 _ hf
        · have hf := ite_f c20 hf
          refine g_iconst (pc' := 244) (0 : Int32) dL_law_243 rfl (by decide) ?_
          cases hf
          exact g_zreturn dL_law_244 rfl (Or.inl rfl) (by show k ≤ 601024; omega) (by show u ≤ 7293034; omega)
      have hf := ite_f c3 hf
      by_cases c21 : ((xs v4.toNatClampNeg) &&& (31 : Int32)) = (1 : Int32)
      · have hf := ite_t c21 hf
        refine g_tsw (pc' := 245) (1 : Int32) dL_law_40 c21 (by decide) (by decide) rfl (by decide) ?_
        refine g_aload_n (pc' := 246) dL_law_245 rfl rfl ?_
        refine g_aload_n (pc' := 247) dL_law_246 rfl rfl ?_
        refine g_iload (pc' := 249) dL_law_247 rfl rfl ?_
        refine g_iconst (pc' := 250) (1 : Int32) dL_law_249 rfl (by decide) ?_
        refine g_iadd (pc' := 251) dL_law_250 rfl ?_
        obtain ⟨b22, hf⟩ := chk_s hf
        refine g_scrAt (pc' := 252) rfl dL_law_251 rfl (inB_in b22) ?_
        refine g_aload_n (pc' := 253) dL_law_252 rfl rfl ?_
        obtain ⟨r24, M23, e24, hf⟩ := bnd_some hf
        refine g_callSWi (pc' := 256) (k' := (k + 1)) (u' := (u + 6)) (fr2 := 10) (As := [aR v1, aI (xs (v4 + (1 : Int32)).toNatClampNeg), aR v3]) (st := []) cf_L_schema q_169 (by omega) dL_law_253 rfl rfl rfl (Nat.le_of_ble_eq_true rfl) (Or.inl rfl) (by show k + 1 ≤ (k + 1); omega) (by show u + 6 ≤ (u + 6); omega) (by show (k + 1) ≤ 601024; omega) (by show (u + 6) ≤ 7293034; omega) (s_L_schema v1 (xs (v4 + (1 : Int32)).toNatClampNeg) v3 M _ e24) ?_
        refine g_istore (pc' := 258) (lv' := [some (aR 4000000), some (aR v1), some (aR v2), some (aR v3), some (aI v4), some (aI r24), none]) dL_law_256 rfl rfl (Nat.le_of_ble_eq_true rfl) rfl ?_
        refine g_aload_n (pc' := 259) dL_law_258 rfl rfl ?_
        refine g_aload_n (pc' := 260) dL_law_259 rfl rfl ?_
        refine g_iload (pc' := 262) dL_law_260 rfl rfl ?_
        refine g_iconst (pc' := 263) (1 : Int32) dL_law_262 rfl (by decide) ?_
        refine g_iadd (pc' := 264) dL_law_263 rfl ?_
        obtain ⟨b25, hf⟩ := chk_s hf
        refine g_scrAt (pc' := 265) rfl dL_law_264 rfl (inB_in b25) ?_
        obtain ⟨h26, hf⟩ := chk_s hf
        obtain ⟨r28, M27, e28, hf⟩ := bnd_some hf
        refine g_callVi (pc' := 268) (k' := (k + 1)) (u' := (u + 6)) (fr2 := 50) (As := [aI (xs (v4 + (1 : Int32)).toNatClampNeg)]) (b := v2) (st := []) cf_X12_schema q_358 (by omega) (ci := 12) rfl rfl (by decide) dL_law_265 rfl rfl rfl (Nat.le_of_ble_eq_true rfl) (Or.inl rfl) (by show (k + 1) + 0 ≤ (k + 1); omega) (by show (u + 6) + 0 ≤ (u + 6); omega) (by show (k + 1) ≤ 601024; omega) (by show (u + 6) ≤ 7293034; omega) h26 (s_X12_schema v2 (xs (v4 + (1 : Int32)).toNatClampNeg) M23 _ e28) ?_
        refine g_istore (pc' := 270) (lv' := [some (aR 4000000), some (aR v1), some (aR v2), some (aR v3), some (aI v4), some (aI r24), some (aI r28)]) dL_law_268 rfl rfl (Nat.le_of_ble_eq_true rfl) rfl ?_
        refine g_aload_n (pc' := 271) dL_law_270 rfl rfl ?_
        obtain ⟨h29, hf⟩ := chk_s hf
        obtain ⟨r31, M30, e31, hf⟩ := bnd_some hf
        refine g_callVi (pc' := 274) (k' := (k + 1)) (u' := (u + 6)) (fr2 := 1) (As := []) (b := v2) (st := []) cf_X12_thrown q_463 (by omega) (ci := 12) rfl rfl (by decide) dL_law_271 rfl rfl rfl (Nat.le_of_ble_eq_true rfl) (Or.inl rfl) (by show (k + 1) + 0 ≤ (k + 1); omega) (by show (u + 6) + 0 ≤ (u + 6); omega) (by show (k + 1) ≤ 601024; omega) (by show (u + 6) ≤ 7293034; omega) h29 (s_X12_thrown v2 M27 _ e31) ?_
        refine g_iload (pc' := 276) dL_law_274 rfl rfl ?_
        refine g_icmp_eq (pc' := 279) 281 dL_law_276 rfl (by decide) (fun c32 => ?_) (fun c32 => ?_)
        · have hf := ite_t c32 hf
          refine g_iload (pc' := 283) dL_law_281 rfl rfl ?_
          refine g_if_ne (pc' := 286) 298 dL_law_283 rfl (by decide) (fun c33 => ?_) (fun c33 => ?_)
          · have hf := ite_f c33 hf
            refine g_mask [true, true, true, true, true, false, false] rfl ?_
            refine g_widen (k' := (k + 1)) (u' := (u + 6)) (by omega) (by omega) ?_
            exact s_L_law_298 L xs (f_L_law_23 L xs n) k u (by omega) (fun v1 v2 v3 v4 M r hf => ih (k + 3) (u + 1005) v1 v2 v3 v4 M r (by omega) hf) v1 v2 v3 v4 M30 _ hf
          · have hf := ite_t c33 hf
            refine g_aload_n (pc' := 287) dL_law_286 rfl rfl ?_
            refine g_iconst (pc' := 288) (0 : Int32) dL_law_287 rfl (by decide) ?_
            obtain ⟨h34, hf⟩ := chk_s hf
            obtain ⟨b35, hf⟩ := chk_s hf
            refine g_lald (pc' := 289) dL_law_288 rfl h34 (inB_in b35) ?_
            refine g_iload (pc' := 291) dL_law_289 rfl rfl ?_
            refine g_i2l (pc' := 292) dL_law_291 rfl ?_
            refine g_lcmp (pc' := 293) dL_law_292 rfl ?_
            refine g_if_eq (pc' := 296) 298 dL_law_293 rfl (by decide) (fun c36 => ?_) (fun c36 => ?_)
            · have hf := ite_t c36 hf
              refine g_mask [true, true, true, true, true, false, false] rfl ?_
              refine g_widen (k' := (k + 1)) (u' := (u + 6)) (by omega) (by omega) ?_
              exact s_L_law_298 L xs (f_L_law_23 L xs n) k u (by omega) (fun v1 v2 v3 v4 M r hf => ih (k + 3) (u + 1005) v1 v2 v3 v4 M r (by omega) hf) v1 v2 v3 v4 M30 _ hf
            · have hf := ite_f c36 hf
              refine g_iconst (pc' := 297) (0 : Int32) dL_law_296 rfl (by decide) ?_
              cases hf
              exact g_zreturn dL_law_297 rfl (Or.inl rfl) (by show (k + 1) ≤ 601024; omega) (by show (u + 6) ≤ 7293034; omega)
        · have hf := ite_f c32 hf
          refine g_iconst (pc' := 280) (0 : Int32) dL_law_279 rfl (by decide) ?_
          cases hf
          exact g_zreturn dL_law_280 rfl (Or.inl rfl) (by show (k + 1) ≤ 601024; omega) (by show (u + 6) ≤ 7293034; omega)
      have hf := ite_f c21 hf
      by_cases c37 : ((xs v4.toNatClampNeg) &&& (31 : Int32)) = (2 : Int32)
      · have hf := ite_t c37 hf
        refine g_tsw (pc' := 301) (2 : Int32) dL_law_40 c37 (by decide) (by decide) rfl (by decide) ?_
        refine g_aload_n (pc' := 302) dL_law_301 rfl rfl ?_
        refine g_aload_n (pc' := 303) dL_law_302 rfl rfl ?_
        refine g_iload (pc' := 305) dL_law_303 rfl rfl ?_
        refine g_iconst (pc' := 306) (1 : Int32) dL_law_305 rfl (by decide) ?_
        refine g_iadd (pc' := 307) dL_law_306 rfl ?_
        obtain ⟨b38, hf⟩ := chk_s hf
        refine g_scrAt (pc' := 308) rfl dL_law_307 rfl (inB_in b38) ?_
        refine g_aload_n (pc' := 309) dL_law_308 rfl rfl ?_
        obtain ⟨ha41, hf⟩ := chk_s hf
        obtain ⟨r40, M39, e40, hf⟩ := bnd_some hf
        refine g_callSWi (pc' := 312) (k' := (k + 2)) (u' := (u + 11)) (fr2 := 39) (As := [aR v1, aI (xs (v4 + (1 : Int32)).toNatClampNeg), aR v3]) (st := []) cf_L_add q_467 (by omega) dL_law_309 rfl rfl rfl (Nat.le_of_ble_eq_true rfl) (Or.inr ⟨Nat.one_ne_zero, okrB_ok ha41 rfl⟩) (by show k + 2 ≤ (k + 2); omega) (by show u + 11 ≤ (u + 11); omega) (by show (k + 2) ≤ 601024; omega) (by show (u + 11) ≤ 7293034; omega) (s_L_add v1 (xs (v4 + (1 : Int32)).toNatClampNeg) v3 M _ e40) ?_
        refine g_istore (pc' := 314) (lv' := [some (aR 4000000), some (aR v1), some (aR v2), some (aR v3), some (aI v4), some (aI r40), none]) dL_law_312 rfl rfl (Nat.le_of_ble_eq_true rfl) rfl ?_
        refine g_aload_n (pc' := 315) dL_law_314 rfl rfl ?_
        refine g_aload_n (pc' := 316) dL_law_315 rfl rfl ?_
        refine g_iload (pc' := 318) dL_law_316 rfl rfl ?_
        refine g_iconst (pc' := 319) (1 : Int32) dL_law_318 rfl (by decide) ?_
        refine g_iadd (pc' := 320) dL_law_319 rfl ?_
        obtain ⟨b42, hf⟩ := chk_s hf
        refine g_scrAt (pc' := 321) rfl dL_law_320 rfl (inB_in b42) ?_
        obtain ⟨h43, hf⟩ := chk_s hf
        obtain ⟨r45, M44, e45, hf⟩ := bnd_some hf
        refine g_callVi (pc' := 324) (k' := (k + 2)) (u' := (u + 11)) (fr2 := 37) (As := [aI (xs (v4 + (1 : Int32)).toNatClampNeg)]) (b := v2) (st := []) cf_X12_add q_644 (by omega) (ci := 12) rfl rfl (by decide) dL_law_321 rfl rfl rfl (Nat.le_of_ble_eq_true rfl) (Or.inl rfl) (by show (k + 2) + 0 ≤ (k + 2); omega) (by show (u + 11) + 0 ≤ (u + 11); omega) (by show (k + 2) ≤ 601024; omega) (by show (u + 11) ≤ 7293034; omega) h43 (s_X12_add v2 (xs (v4 + (1 : Int32)).toNatClampNeg) M39 _ e45) ?_
        refine g_istore (pc' := 326) (lv' := [some (aR 4000000), some (aR v1), some (aR v2), some (aR v3), some (aI v4), some (aI r40), some (aI r45)]) dL_law_324 rfl rfl (Nat.le_of_ble_eq_true rfl) rfl ?_
        refine g_aload_n (pc' := 327) dL_law_326 rfl rfl ?_
        obtain ⟨h46, hf⟩ := chk_s hf
        obtain ⟨r48, M47, e48, hf⟩ := bnd_some hf
        refine g_callVi (pc' := 330) (k' := (k + 2)) (u' := (u + 11)) (fr2 := 1) (As := []) (b := v2) (st := []) cf_X12_thrown q_463 (by omega) (ci := 12) rfl rfl (by decide) dL_law_327 rfl rfl rfl (Nat.le_of_ble_eq_true rfl) (Or.inl rfl) (by show (k + 2) + 0 ≤ (k + 2); omega) (by show (u + 11) + 0 ≤ (u + 11); omega) (by show (k + 2) ≤ 601024; omega) (by show (u + 11) ≤ 7293034; omega) h46 (s_X12_thrown v2 M44 _ e48) ?_
        refine g_iload (pc' := 332) dL_law_330 rfl rfl ?_
        refine g_icmp_eq (pc' := 335) 337 dL_law_332 rfl (by decide) (fun c49 => ?_) (fun c49 => ?_)
        · have hf := ite_t c49 hf
          refine g_iload (pc' := 339) dL_law_337 rfl rfl ?_
          refine g_if_ne (pc' := 342) 354 dL_law_339 rfl (by decide) (fun c50 => ?_) (fun c50 => ?_)
          · have hf := ite_f c50 hf
            refine g_mask [true, true, true, true, true, false, false] rfl ?_
            refine g_widen (k' := (k + 2)) (u' := (u + 11)) (by omega) (by omega) ?_
            exact s_L_law_354 L xs (f_L_law_23 L xs n) k u (by omega) (fun v1 v2 v3 v4 M r hf => ih (k + 3) (u + 1005) v1 v2 v3 v4 M r (by omega) hf) v1 v2 v3 v4 M47 _ hf
          · have hf := ite_t c50 hf
            refine g_aload_n (pc' := 343) dL_law_342 rfl rfl ?_
            refine g_iconst (pc' := 344) (0 : Int32) dL_law_343 rfl (by decide) ?_
            obtain ⟨h51, hf⟩ := chk_s hf
            obtain ⟨b52, hf⟩ := chk_s hf
            refine g_lald (pc' := 345) dL_law_344 rfl h51 (inB_in b52) ?_
            refine g_iload (pc' := 347) dL_law_345 rfl rfl ?_
            refine g_i2l (pc' := 348) dL_law_347 rfl ?_
            refine g_lcmp (pc' := 349) dL_law_348 rfl ?_
            refine g_if_eq (pc' := 352) 354 dL_law_349 rfl (by decide) (fun c53 => ?_) (fun c53 => ?_)
            · have hf := ite_t c53 hf
              refine g_mask [true, true, true, true, true, false, false] rfl ?_
              refine g_widen (k' := (k + 2)) (u' := (u + 11)) (by omega) (by omega) ?_
              exact s_L_law_354 L xs (f_L_law_23 L xs n) k u (by omega) (fun v1 v2 v3 v4 M r hf => ih (k + 3) (u + 1005) v1 v2 v3 v4 M r (by omega) hf) v1 v2 v3 v4 M47 _ hf
            · have hf := ite_f c53 hf
              refine g_iconst (pc' := 353) (0 : Int32) dL_law_352 rfl (by decide) ?_
              cases hf
              exact g_zreturn dL_law_353 rfl (Or.inl rfl) (by show (k + 2) ≤ 601024; omega) (by show (u + 11) ≤ 7293034; omega)
        · have hf := ite_f c49 hf
          refine g_iconst (pc' := 336) (0 : Int32) dL_law_335 rfl (by decide) ?_
          cases hf
          exact g_zreturn dL_law_336 rfl (Or.inl rfl) (by show (k + 2) ≤ 601024; omega) (by show (u + 11) ≤ 7293034; omega)
      have hf := ite_f c37 hf
      by_cases c54 : ((xs v4.toNatClampNeg) &&& (31 : Int32)) = (3 : Int32)
      · have hf := ite_t c54 hf
        refine g_tsw (pc' := 357) (3 : Int32) dL_law_40 c54 (by decide) (by decide) rfl (by decide) ?_
        refine g_aload_n (pc' := 358) dL_law_357 rfl rfl ?_
        refine g_aload_n (pc' := 359) dL_law_358 rfl rfl ?_
        refine g_iload (pc' := 361) dL_law_359 rfl rfl ?_
        refine g_iconst (pc' := 362) (1 : Int32) dL_law_361 rfl (by decide) ?_
        refine g_iadd (pc' := 363) dL_law_362 rfl ?_
        obtain ⟨b55, hf⟩ := chk_s hf
        refine g_scrAt (pc' := 364) rfl dL_law_363 rfl (inB_in b55) ?_
        refine g_aload_n (pc' := 365) dL_law_364 rfl rfl ?_
        obtain ⟨r57, M56, e57, hf⟩ := bnd_some hf
        refine g_callSWi (pc' := 368) (k' := (k + 1)) (u' := (u + 6)) (fr2 := 10) (As := [aR v1, aI (xs (v4 + (1 : Int32)).toNatClampNeg), aR v3]) (st := []) cf_L_view q_742 (by omega) dL_law_365 rfl rfl rfl (Nat.le_of_ble_eq_true rfl) (Or.inl rfl) (by show k + 1 ≤ (k + 1); omega) (by show u + 6 ≤ (u + 6); omega) (by show (k + 1) ≤ 601024; omega) (by show (u + 6) ≤ 7293034; omega) (s_L_view v1 (xs (v4 + (1 : Int32)).toNatClampNeg) v3 M _ e57) ?_
        refine g_istore (pc' := 370) (lv' := [some (aR 4000000), some (aR v1), some (aR v2), some (aR v3), some (aI v4), some (aI r57), none]) dL_law_368 rfl rfl (Nat.le_of_ble_eq_true rfl) rfl ?_
        refine g_aload_n (pc' := 371) dL_law_370 rfl rfl ?_
        refine g_aload_n (pc' := 372) dL_law_371 rfl rfl ?_
        refine g_iload (pc' := 374) dL_law_372 rfl rfl ?_
        refine g_iconst (pc' := 375) (1 : Int32) dL_law_374 rfl (by decide) ?_
        refine g_iadd (pc' := 376) dL_law_375 rfl ?_
        obtain ⟨b58, hf⟩ := chk_s hf
        refine g_scrAt (pc' := 377) rfl dL_law_376 rfl (inB_in b58) ?_
        obtain ⟨h59, hf⟩ := chk_s hf
        obtain ⟨r61, M60, e61, hf⟩ := bnd_some hf
        refine g_callVi (pc' := 380) (k' := (k + 1)) (u' := (u + 6)) (fr2 := 50) (As := [aI (xs (v4 + (1 : Int32)).toNatClampNeg)]) (b := v2) (st := []) cf_X12_view q_749 (by omega) (ci := 12) rfl rfl (by decide) dL_law_377 rfl rfl rfl (Nat.le_of_ble_eq_true rfl) (Or.inl rfl) (by show (k + 1) + 0 ≤ (k + 1); omega) (by show (u + 6) + 0 ≤ (u + 6); omega) (by show (k + 1) ≤ 601024; omega) (by show (u + 6) ≤ 7293034; omega) h59 (s_X12_view v2 (xs (v4 + (1 : Int32)).toNatClampNeg) M56 _ e61) ?_
        refine g_istore (pc' := 382) (lv' := [some (aR 4000000), some (aR v1), some (aR v2), some (aR v3), some (aI v4), some (aI r57), some (aI r61)]) dL_law_380 rfl rfl (Nat.le_of_ble_eq_true rfl) rfl ?_
        refine g_aload_n (pc' := 383) dL_law_382 rfl rfl ?_
        obtain ⟨h62, hf⟩ := chk_s hf
        obtain ⟨r64, M63, e64, hf⟩ := bnd_some hf
        refine g_callVi (pc' := 386) (k' := (k + 1)) (u' := (u + 6)) (fr2 := 1) (As := []) (b := v2) (st := []) cf_X12_thrown q_463 (by omega) (ci := 12) rfl rfl (by decide) dL_law_383 rfl rfl rfl (Nat.le_of_ble_eq_true rfl) (Or.inl rfl) (by show (k + 1) + 0 ≤ (k + 1); omega) (by show (u + 6) + 0 ≤ (u + 6); omega) (by show (k + 1) ≤ 601024; omega) (by show (u + 6) ≤ 7293034; omega) h62 (s_X12_thrown v2 M60 _ e64) ?_
        refine g_iload (pc' := 388) dL_law_386 rfl rfl ?_
        refine g_icmp_eq (pc' := 391) 393 dL_law_388 rfl (by decide) (fun c65 => ?_) (fun c65 => ?_)
        · have hf := ite_t c65 hf
          refine g_iload (pc' := 395) dL_law_393 rfl rfl ?_
          refine g_if_ne (pc' := 398) 410 dL_law_395 rfl (by decide) (fun c66 => ?_) (fun c66 => ?_)
          · have hf := ite_f c66 hf
            refine g_mask [true, true, true, true, true, false, false] rfl ?_
            refine g_widen (k' := (k + 1)) (u' := (u + 6)) (by omega) (by omega) ?_
            exact s_L_law_410 L xs (f_L_law_23 L xs n) k u (by omega) (fun v1 v2 v3 v4 M r hf => ih (k + 3) (u + 1005) v1 v2 v3 v4 M r (by omega) hf) v1 v2 v3 v4 M63 _ hf
          · have hf := ite_t c66 hf
            refine g_aload_n (pc' := 399) dL_law_398 rfl rfl ?_
            refine g_iconst (pc' := 400) (0 : Int32) dL_law_399 rfl (by decide) ?_
            obtain ⟨h67, hf⟩ := chk_s hf
            obtain ⟨b68, hf⟩ := chk_s hf
            refine g_lald (pc' := 401) dL_law_400 rfl h67 (inB_in b68) ?_
            refine g_iload (pc' := 403) dL_law_401 rfl rfl ?_
            refine g_i2l (pc' := 404) dL_law_403 rfl ?_
            refine g_lcmp (pc' := 405) dL_law_404 rfl ?_
            refine g_if_eq (pc' := 408) 410 dL_law_405 rfl (by decide) (fun c69 => ?_) (fun c69 => ?_)
            · have hf := ite_t c69 hf
              refine g_mask [true, true, true, true, true, false, false] rfl ?_
              refine g_widen (k' := (k + 1)) (u' := (u + 6)) (by omega) (by omega) ?_
              exact s_L_law_410 L xs (f_L_law_23 L xs n) k u (by omega) (fun v1 v2 v3 v4 M r hf => ih (k + 3) (u + 1005) v1 v2 v3 v4 M r (by omega) hf) v1 v2 v3 v4 M63 _ hf
            · have hf := ite_f c69 hf
              refine g_iconst (pc' := 409) (0 : Int32) dL_law_408 rfl (by decide) ?_
              cases hf
              exact g_zreturn dL_law_409 rfl (Or.inl rfl) (by show (k + 1) ≤ 601024; omega) (by show (u + 6) ≤ 7293034; omega)
        · have hf := ite_f c65 hf
          refine g_iconst (pc' := 392) (0 : Int32) dL_law_391 rfl (by decide) ?_
          cases hf
          exact g_zreturn dL_law_392 rfl (Or.inl rfl) (by show (k + 1) ≤ 601024; omega) (by show (u + 6) ≤ 7293034; omega)
      have hf := ite_f c54 hf
      by_cases c70 : ((xs v4.toNatClampNeg) &&& (31 : Int32)) = (4 : Int32)
      · have hf := ite_t c70 hf
        refine g_tsw (pc' := 413) (4 : Int32) dL_law_40 c70 (by decide) (by decide) rfl (by decide) ?_
        refine g_aload_n (pc' := 414) dL_law_413 rfl rfl ?_
        refine g_aload_n (pc' := 415) dL_law_414 rfl rfl ?_
        refine g_iload (pc' := 417) dL_law_415 rfl rfl ?_
        refine g_iconst (pc' := 418) (1 : Int32) dL_law_417 rfl (by decide) ?_
        refine g_iadd (pc' := 419) dL_law_418 rfl ?_
        obtain ⟨b71, hf⟩ := chk_s hf
        refine g_scrAt (pc' := 420) rfl dL_law_419 rfl (inB_in b71) ?_
        refine g_aload_n (pc' := 421) dL_law_420 rfl rfl ?_
        obtain ⟨r73, M72, e73, hf⟩ := bnd_some hf
        refine g_callSWi (pc' := 424) (k' := (k + 1)) (u' := (u + 6)) (fr2 := 10) (As := [aR v1, aI (xs (v4 + (1 : Int32)).toNatClampNeg), aR v3]) (st := []) cf_L_pipe q_753 (by omega) dL_law_421 rfl rfl rfl (Nat.le_of_ble_eq_true rfl) (Or.inl rfl) (by show k + 1 ≤ (k + 1); omega) (by show u + 6 ≤ (u + 6); omega) (by show (k + 1) ≤ 601024; omega) (by show (u + 6) ≤ 7293034; omega) (s_L_pipe v1 (xs (v4 + (1 : Int32)).toNatClampNeg) v3 M _ e73) ?_
        refine g_istore (pc' := 426) (lv' := [some (aR 4000000), some (aR v1), some (aR v2), some (aR v3), some (aI v4), some (aI r73), none]) dL_law_424 rfl rfl (Nat.le_of_ble_eq_true rfl) rfl ?_
        refine g_aload_n (pc' := 427) dL_law_426 rfl rfl ?_
        refine g_aload_n (pc' := 428) dL_law_427 rfl rfl ?_
        refine g_iload (pc' := 430) dL_law_428 rfl rfl ?_
        refine g_iconst (pc' := 431) (1 : Int32) dL_law_430 rfl (by decide) ?_
        refine g_iadd (pc' := 432) dL_law_431 rfl ?_
        obtain ⟨b74, hf⟩ := chk_s hf
        refine g_scrAt (pc' := 433) rfl dL_law_432 rfl (inB_in b74) ?_
        obtain ⟨h75, hf⟩ := chk_s hf
        obtain ⟨r77, M76, e77, hf⟩ := bnd_some hf
        refine g_callVi (pc' := 436) (k' := (k + 1)) (u' := (u + 6)) (fr2 := 7) (As := [aI (xs (v4 + (1 : Int32)).toNatClampNeg)]) (b := v2) (st := []) cf_X12_pipe q_776 (by omega) (ci := 12) rfl rfl (by decide) dL_law_433 rfl rfl rfl (Nat.le_of_ble_eq_true rfl) (Or.inl rfl) (by show (k + 1) + 0 ≤ (k + 1); omega) (by show (u + 6) + 0 ≤ (u + 6); omega) (by show (k + 1) ≤ 601024; omega) (by show (u + 6) ≤ 7293034; omega) h75 (s_X12_pipe v2 (xs (v4 + (1 : Int32)).toNatClampNeg) M72 _ e77) ?_
        refine g_istore (pc' := 438) (lv' := [some (aR 4000000), some (aR v1), some (aR v2), some (aR v3), some (aI v4), some (aI r73), some (aI r77)]) dL_law_436 rfl rfl (Nat.le_of_ble_eq_true rfl) rfl ?_
        refine g_aload_n (pc' := 439) dL_law_438 rfl rfl ?_
        obtain ⟨h78, hf⟩ := chk_s hf
        obtain ⟨r80, M79, e80, hf⟩ := bnd_some hf
        refine g_callVi (pc' := 442) (k' := (k + 1)) (u' := (u + 6)) (fr2 := 1) (As := []) (b := v2) (st := []) cf_X12_thrown q_463 (by omega) (ci := 12) rfl rfl (by decide) dL_law_439 rfl rfl rfl (Nat.le_of_ble_eq_true rfl) (Or.inl rfl) (by show (k + 1) + 0 ≤ (k + 1); omega) (by show (u + 6) + 0 ≤ (u + 6); omega) (by show (k + 1) ≤ 601024; omega) (by show (u + 6) ≤ 7293034; omega) h78 (s_X12_thrown v2 M76 _ e80) ?_
        refine g_iload (pc' := 444) dL_law_442 rfl rfl ?_
        refine g_icmp_eq (pc' := 447) 449 dL_law_444 rfl (by decide) (fun c81 => ?_) (fun c81 => ?_)
        · have hf := ite_t c81 hf
          refine g_iload (pc' := 451) dL_law_449 rfl rfl ?_
          refine g_if_ne (pc' := 454) 466 dL_law_451 rfl (by decide) (fun c82 => ?_) (fun c82 => ?_)
          · have hf := ite_f c82 hf
            refine g_mask [true, true, true, true, true, false, false] rfl ?_
            refine g_widen (k' := (k + 1)) (u' := (u + 6)) (by omega) (by omega) ?_
            exact s_L_law_466 L xs (f_L_law_23 L xs n) k u (by omega) (fun v1 v2 v3 v4 M r hf => ih (k + 3) (u + 1005) v1 v2 v3 v4 M r (by omega) hf) v1 v2 v3 v4 M79 _ hf
          · have hf := ite_t c82 hf
            refine g_aload_n (pc' := 455) dL_law_454 rfl rfl ?_
            refine g_iconst (pc' := 456) (0 : Int32) dL_law_455 rfl (by decide) ?_
            obtain ⟨h83, hf⟩ := chk_s hf
            obtain ⟨b84, hf⟩ := chk_s hf
            refine g_lald (pc' := 457) dL_law_456 rfl h83 (inB_in b84) ?_
            refine g_iload (pc' := 459) dL_law_457 rfl rfl ?_
            refine g_i2l (pc' := 460) dL_law_459 rfl ?_
            refine g_lcmp (pc' := 461) dL_law_460 rfl ?_
            refine g_if_eq (pc' := 464) 466 dL_law_461 rfl (by decide) (fun c85 => ?_) (fun c85 => ?_)
            · have hf := ite_t c85 hf
              refine g_mask [true, true, true, true, true, false, false] rfl ?_
              refine g_widen (k' := (k + 1)) (u' := (u + 6)) (by omega) (by omega) ?_
              exact s_L_law_466 L xs (f_L_law_23 L xs n) k u (by omega) (fun v1 v2 v3 v4 M r hf => ih (k + 3) (u + 1005) v1 v2 v3 v4 M r (by omega) hf) v1 v2 v3 v4 M79 _ hf
            · have hf := ite_f c85 hf
              refine g_iconst (pc' := 465) (0 : Int32) dL_law_464 rfl (by decide) ?_
              cases hf
              exact g_zreturn dL_law_465 rfl (Or.inl rfl) (by show (k + 1) ≤ 601024; omega) (by show (u + 6) ≤ 7293034; omega)
        · have hf := ite_f c81 hf
          refine g_iconst (pc' := 448) (0 : Int32) dL_law_447 rfl (by decide) ?_
          cases hf
          exact g_zreturn dL_law_448 rfl (Or.inl rfl) (by show (k + 1) ≤ 601024; omega) (by show (u + 6) ≤ 7293034; omega)
      have hf := ite_f c70 hf
      by_cases c86 : ((xs v4.toNatClampNeg) &&& (31 : Int32)) = (5 : Int32)
      · have hf := ite_t c86 hf
        refine g_tsw (pc' := 469) (5 : Int32) dL_law_40 c86 (by decide) (by decide) rfl (by decide) ?_
        refine g_aload_n (pc' := 470) dL_law_469 rfl rfl ?_
        obtain ⟨h87, hf⟩ := chk_s hf
        obtain ⟨r89, M88, e89, hf⟩ := bnd_some hf
        refine g_callVi (pc' := 473) (k' := k) (u' := u) (fr2 := 1) (As := []) (b := v1) (st := []) cf_X11_fault q_780 (by omega) (ci := 11) rfl rfl (by decide) dL_law_470 rfl rfl rfl (Nat.le_of_ble_eq_true rfl) (Or.inl rfl) (by show k + 0 ≤ k; omega) (by show u + 0 ≤ u; omega) (by show k ≤ 601024; omega) (by show u ≤ 7293034; omega) h87 (s_X11_fault v1 M _ e89) ?_
        refine g_aload_n (pc' := 474) dL_law_473 rfl rfl ?_
        obtain ⟨h90, hf⟩ := chk_s hf
        obtain ⟨r92, M91, e92, hf⟩ := bnd_some hf
        refine g_callVi (pc' := 477) (k' := k) (u' := u) (fr2 := 1) (As := []) (b := v2) (st := [aI r89]) cf_X12_fault q_784 (by omega) (ci := 12) rfl rfl (by decide) dL_law_474 rfl rfl rfl (Nat.le_of_ble_eq_true rfl) (Or.inl rfl) (by show k + 0 ≤ k; omega) (by show u + 0 ≤ u; omega) (by show k ≤ 601024; omega) (by show u ≤ 7293034; omega) h90 (s_X12_fault v2 M88 _ e92) ?_
        refine g_icmp_eq (pc' := 480) 1908 dL_law_477 rfl (by decide) (fun c93 => ?_) (fun c93 => ?_)
        · have hf := ite_t c93 hf
          refine g_widen (k' := (k + 3)) (u' := (u + 1005)) (by omega) (by omega) ?_
          exact s_L_law_1908 L xs (f_L_law_23 L xs n) k u (by omega) (fun v1 v2 v3 v4 M r hf => ih (k + 3) (u + 1005) v1 v2 v3 v4 M r (by omega) hf) v1 v2 v3 v4 M91 _ hf
        · have hf := ite_f c93 hf
          refine g_iconst (pc' := 481) (0 : Int32) dL_law_480 rfl (by decide) ?_
          cases hf
          exact g_zreturn dL_law_481 rfl (Or.inl rfl) (by show k ≤ 601024; omega) (by show u ≤ 7293034; omega)
      have hf := ite_f c86 hf
      by_cases c94 : ((xs v4.toNatClampNeg) &&& (31 : Int32)) = (6 : Int32)
      · have hf := ite_t c94 hf
        refine g_tsw (pc' := 482) (6 : Int32) dL_law_40 c94 (by decide) (by decide) rfl (by decide) ?_
        refine g_aload_n (pc' := 483) dL_law_482 rfl rfl ?_
        refine g_aload_n (pc' := 484) dL_law_483 rfl rfl ?_
        refine g_iload (pc' := 486) dL_law_484 rfl rfl ?_
        refine g_iconst (pc' := 487) (1 : Int32) dL_law_486 rfl (by decide) ?_
        refine g_iadd (pc' := 488) dL_law_487 rfl ?_
        obtain ⟨b95, hf⟩ := chk_s hf
        refine g_scrAt (pc' := 489) rfl dL_law_488 rfl (inB_in b95) ?_
        refine g_aload_n (pc' := 490) dL_law_489 rfl rfl ?_
        obtain ⟨r97, M96, e97, hf⟩ := bnd_some hf
        refine g_callSWi (pc' := 493) (k' := (k + 1)) (u' := (u + 6)) (fr2 := 8) (As := [aR v1, aI (xs (v4 + (1 : Int32)).toNatClampNeg), aR v3]) (st := []) cf_L_count q_788 (by omega) dL_law_490 rfl rfl rfl (Nat.le_of_ble_eq_true rfl) (Or.inl rfl) (by show k + 1 ≤ (k + 1); omega) (by show u + 6 ≤ (u + 6); omega) (by show (k + 1) ≤ 601024; omega) (by show (u + 6) ≤ 7293034; omega) (s_L_count v1 (xs (v4 + (1 : Int32)).toNatClampNeg) v3 M _ e97) ?_
        refine g_istore (pc' := 495) (lv' := [some (aR 4000000), some (aR v1), some (aR v2), some (aR v3), some (aI v4), some (aI r97), none]) dL_law_493 rfl rfl (Nat.le_of_ble_eq_true rfl) rfl ?_
        refine g_aload_n (pc' := 496) dL_law_495 rfl rfl ?_
        refine g_aload_n (pc' := 497) dL_law_496 rfl rfl ?_
        refine g_iload (pc' := 499) dL_law_497 rfl rfl ?_
        refine g_iconst (pc' := 500) (1 : Int32) dL_law_499 rfl (by decide) ?_
        refine g_iadd (pc' := 501) dL_law_500 rfl ?_
        obtain ⟨b98, hf⟩ := chk_s hf
        refine g_scrAt (pc' := 502) rfl dL_law_501 rfl (inB_in b98) ?_
        obtain ⟨h99, hf⟩ := chk_s hf
        obtain ⟨r101, M100, e101, hf⟩ := bnd_some hf
        refine g_callVi (pc' := 505) (k' := (k + 1)) (u' := (u + 6)) (fr2 := 7) (As := [aI (xs (v4 + (1 : Int32)).toNatClampNeg)]) (b := v2) (st := []) cf_X12_count q_859 (by omega) (ci := 12) rfl rfl (by decide) dL_law_502 rfl rfl rfl (Nat.le_of_ble_eq_true rfl) (Or.inl rfl) (by show (k + 1) + 0 ≤ (k + 1); omega) (by show (u + 6) + 0 ≤ (u + 6); omega) (by show (k + 1) ≤ 601024; omega) (by show (u + 6) ≤ 7293034; omega) h99 (s_X12_count v2 (xs (v4 + (1 : Int32)).toNatClampNeg) M96 _ e101) ?_
        refine g_istore (pc' := 507) (lv' := [some (aR 4000000), some (aR v1), some (aR v2), some (aR v3), some (aI v4), some (aI r97), some (aI r101)]) dL_law_505 rfl rfl (Nat.le_of_ble_eq_true rfl) rfl ?_
        refine g_aload_n (pc' := 508) dL_law_507 rfl rfl ?_
        obtain ⟨h102, hf⟩ := chk_s hf
        obtain ⟨r104, M103, e104, hf⟩ := bnd_some hf
        refine g_callVi (pc' := 511) (k' := (k + 1)) (u' := (u + 6)) (fr2 := 1) (As := []) (b := v2) (st := []) cf_X12_thrown q_463 (by omega) (ci := 12) rfl rfl (by decide) dL_law_508 rfl rfl rfl (Nat.le_of_ble_eq_true rfl) (Or.inl rfl) (by show (k + 1) + 0 ≤ (k + 1); omega) (by show (u + 6) + 0 ≤ (u + 6); omega) (by show (k + 1) ≤ 601024; omega) (by show (u + 6) ≤ 7293034; omega) h102 (s_X12_thrown v2 M100 _ e104) ?_
        refine g_iload (pc' := 513) dL_law_511 rfl rfl ?_
        refine g_icmp_eq (pc' := 516) 518 dL_law_513 rfl (by decide) (fun c105 => ?_) (fun c105 => ?_)
        · have hf := ite_t c105 hf
          refine g_iload (pc' := 520) dL_law_518 rfl rfl ?_
          refine g_if_ne (pc' := 523) 535 dL_law_520 rfl (by decide) (fun c106 => ?_) (fun c106 => ?_)
          · have hf := ite_f c106 hf
            refine g_mask [true, true, true, true, true, false, false] rfl ?_
            refine g_widen (k' := (k + 1)) (u' := (u + 6)) (by omega) (by omega) ?_
            exact s_L_law_535 L xs (f_L_law_23 L xs n) k u (by omega) (fun v1 v2 v3 v4 M r hf => ih (k + 3) (u + 1005) v1 v2 v3 v4 M r (by omega) hf) v1 v2 v3 v4 M103 _ hf
          · have hf := ite_t c106 hf
            refine g_aload_n (pc' := 524) dL_law_523 rfl rfl ?_
            refine g_iconst (pc' := 525) (0 : Int32) dL_law_524 rfl (by decide) ?_
            obtain ⟨h107, hf⟩ := chk_s hf
            obtain ⟨b108, hf⟩ := chk_s hf
            refine g_lald (pc' := 526) dL_law_525 rfl h107 (inB_in b108) ?_
            refine g_iload (pc' := 528) dL_law_526 rfl rfl ?_
            refine g_i2l (pc' := 529) dL_law_528 rfl ?_
            refine g_lcmp (pc' := 530) dL_law_529 rfl ?_
            refine g_if_eq (pc' := 533) 535 dL_law_530 rfl (by decide) (fun c109 => ?_) (fun c109 => ?_)
            · have hf := ite_t c109 hf
              refine g_mask [true, true, true, true, true, false, false] rfl ?_
              refine g_widen (k' := (k + 1)) (u' := (u + 6)) (by omega) (by omega) ?_
              exact s_L_law_535 L xs (f_L_law_23 L xs n) k u (by omega) (fun v1 v2 v3 v4 M r hf => ih (k + 3) (u + 1005) v1 v2 v3 v4 M r (by omega) hf) v1 v2 v3 v4 M103 _ hf
            · have hf := ite_f c109 hf
              refine g_iconst (pc' := 534) (0 : Int32) dL_law_533 rfl (by decide) ?_
              cases hf
              exact g_zreturn dL_law_534 rfl (Or.inl rfl) (by show (k + 1) ≤ 601024; omega) (by show (u + 6) ≤ 7293034; omega)
        · have hf := ite_f c105 hf
          refine g_iconst (pc' := 517) (0 : Int32) dL_law_516 rfl (by decide) ?_
          cases hf
          exact g_zreturn dL_law_517 rfl (Or.inl rfl) (by show (k + 1) ≤ 601024; omega) (by show (u + 6) ≤ 7293034; omega)
      have hf := ite_f c94 hf
      by_cases c110 : ((xs v4.toNatClampNeg) &&& (31 : Int32)) = (7 : Int32)
      · have hf := ite_t c110 hf
        refine g_tsw (pc' := 538) (7 : Int32) dL_law_40 c110 (by decide) (by decide) rfl (by decide) ?_
        refine g_aload_n (pc' := 539) dL_law_538 rfl rfl ?_
        refine g_aload_n (pc' := 540) dL_law_539 rfl rfl ?_
        refine g_iload (pc' := 542) dL_law_540 rfl rfl ?_
        refine g_iconst (pc' := 543) (1 : Int32) dL_law_542 rfl (by decide) ?_
        refine g_iadd (pc' := 544) dL_law_543 rfl ?_
        obtain ⟨b111, hf⟩ := chk_s hf
        refine g_scrAt (pc' := 545) rfl dL_law_544 rfl (inB_in b111) ?_
        refine g_aload_n (pc' := 546) dL_law_545 rfl rfl ?_
        refine g_iload (pc' := 548) dL_law_546 rfl rfl ?_
        refine g_iconst (pc' := 549) (2 : Int32) dL_law_548 rfl (by decide) ?_
        refine g_iadd (pc' := 550) dL_law_549 rfl ?_
        obtain ⟨b112, hf⟩ := chk_s hf
        refine g_scrAt (pc' := 551) rfl dL_law_550 rfl (inB_in b112) ?_
        refine g_aload_n (pc' := 552) dL_law_551 rfl rfl ?_
        obtain ⟨r114, M113, e114, hf⟩ := bnd_some hf
        refine g_callSWi (pc' := 555) (k' := (k + 2)) (u' := (u + 12)) (fr2 := 8) (As := [aR v1, aI (xs (v4 + (1 : Int32)).toNatClampNeg), aI (xs (v4 + (2 : Int32)).toNatClampNeg), aR v3]) (st := []) cf_L_field q_908 (by omega) dL_law_552 rfl rfl rfl (Nat.le_of_ble_eq_true rfl) (Or.inl rfl) (by show k + 2 ≤ (k + 2); omega) (by show u + 12 ≤ (u + 12); omega) (by show (k + 2) ≤ 601024; omega) (by show (u + 12) ≤ 7293034; omega) (s_L_field v1 (xs (v4 + (1 : Int32)).toNatClampNeg) (xs (v4 + (2 : Int32)).toNatClampNeg) v3 M _ e114) ?_
        refine g_istore (pc' := 557) (lv' := [some (aR 4000000), some (aR v1), some (aR v2), some (aR v3), some (aI v4), some (aI r114), none]) dL_law_555 rfl rfl (Nat.le_of_ble_eq_true rfl) rfl ?_
        refine g_aload_n (pc' := 558) dL_law_557 rfl rfl ?_
        refine g_aload_n (pc' := 559) dL_law_558 rfl rfl ?_
        refine g_iload (pc' := 561) dL_law_559 rfl rfl ?_
        refine g_iconst (pc' := 562) (1 : Int32) dL_law_561 rfl (by decide) ?_
        refine g_iadd (pc' := 563) dL_law_562 rfl ?_
        obtain ⟨b115, hf⟩ := chk_s hf
        refine g_scrAt (pc' := 564) rfl dL_law_563 rfl (inB_in b115) ?_
        refine g_aload_n (pc' := 565) dL_law_564 rfl rfl ?_
        refine g_iload (pc' := 567) dL_law_565 rfl rfl ?_
        refine g_iconst (pc' := 568) (2 : Int32) dL_law_567 rfl (by decide) ?_
        refine g_iadd (pc' := 569) dL_law_568 rfl ?_
        obtain ⟨b116, hf⟩ := chk_s hf
        refine g_scrAt (pc' := 570) rfl dL_law_569 rfl (inB_in b116) ?_
        obtain ⟨h117, hf⟩ := chk_s hf
        obtain ⟨r119, M118, e119, hf⟩ := bnd_some hf
        refine g_callVi (pc' := 573) (k' := (k + 2)) (u' := (u + 12)) (fr2 := 3) (As := [aI (xs (v4 + (1 : Int32)).toNatClampNeg), aI (xs (v4 + (2 : Int32)).toNatClampNeg)]) (b := v2) (st := []) cf_X12_field q_924 (by omega) (ci := 12) rfl rfl (by decide) dL_law_570 rfl rfl rfl (Nat.le_of_ble_eq_true rfl) (Or.inl rfl) (by show (k + 2) + 0 ≤ (k + 2); omega) (by show (u + 12) + 0 ≤ (u + 12); omega) (by show (k + 2) ≤ 601024; omega) (by show (u + 12) ≤ 7293034; omega) h117 (s_X12_field v2 (xs (v4 + (1 : Int32)).toNatClampNeg) (xs (v4 + (2 : Int32)).toNatClampNeg) M113 _ e119) ?_
        refine g_istore (pc' := 575) (lv' := [some (aR 4000000), some (aR v1), some (aR v2), some (aR v3), some (aI v4), some (aI r114), some (aI r119)]) dL_law_573 rfl rfl (Nat.le_of_ble_eq_true rfl) rfl ?_
        refine g_aload_n (pc' := 576) dL_law_575 rfl rfl ?_
        obtain ⟨h120, hf⟩ := chk_s hf
        obtain ⟨r122, M121, e122, hf⟩ := bnd_some hf
        refine g_callVi (pc' := 579) (k' := (k + 2)) (u' := (u + 12)) (fr2 := 1) (As := []) (b := v2) (st := []) cf_X12_thrown q_463 (by omega) (ci := 12) rfl rfl (by decide) dL_law_576 rfl rfl rfl (Nat.le_of_ble_eq_true rfl) (Or.inl rfl) (by show (k + 2) + 0 ≤ (k + 2); omega) (by show (u + 12) + 0 ≤ (u + 12); omega) (by show (k + 2) ≤ 601024; omega) (by show (u + 12) ≤ 7293034; omega) h120 (s_X12_thrown v2 M118 _ e122) ?_
        refine g_iload (pc' := 581) dL_law_579 rfl rfl ?_
        refine g_icmp_eq (pc' := 584) 586 dL_law_581 rfl (by decide) (fun c123 => ?_) (fun c123 => ?_)
        · have hf := ite_t c123 hf
          refine g_iload (pc' := 588) dL_law_586 rfl rfl ?_
          refine g_if_ne (pc' := 591) 603 dL_law_588 rfl (by decide) (fun c124 => ?_) (fun c124 => ?_)
          · have hf := ite_f c124 hf
            refine g_mask [true, true, true, true, true, false, false] rfl ?_
            refine g_widen (k' := (k + 2)) (u' := (u + 12)) (by omega) (by omega) ?_
            exact s_L_law_603 L xs (f_L_law_23 L xs n) k u (by omega) (fun v1 v2 v3 v4 M r hf => ih (k + 3) (u + 1005) v1 v2 v3 v4 M r (by omega) hf) v1 v2 v3 v4 M121 _ hf
          · have hf := ite_t c124 hf
            refine g_aload_n (pc' := 592) dL_law_591 rfl rfl ?_
            refine g_iconst (pc' := 593) (0 : Int32) dL_law_592 rfl (by decide) ?_
            obtain ⟨h125, hf⟩ := chk_s hf
            obtain ⟨b126, hf⟩ := chk_s hf
            refine g_lald (pc' := 594) dL_law_593 rfl h125 (inB_in b126) ?_
            refine g_iload (pc' := 596) dL_law_594 rfl rfl ?_
            refine g_i2l (pc' := 597) dL_law_596 rfl ?_
            refine g_lcmp (pc' := 598) dL_law_597 rfl ?_
            refine g_if_eq (pc' := 601) 603 dL_law_598 rfl (by decide) (fun c127 => ?_) (fun c127 => ?_)
            · have hf := ite_t c127 hf
              refine g_mask [true, true, true, true, true, false, false] rfl ?_
              refine g_widen (k' := (k + 2)) (u' := (u + 12)) (by omega) (by omega) ?_
              exact s_L_law_603 L xs (f_L_law_23 L xs n) k u (by omega) (fun v1 v2 v3 v4 M r hf => ih (k + 3) (u + 1005) v1 v2 v3 v4 M r (by omega) hf) v1 v2 v3 v4 M121 _ hf
            · have hf := ite_f c127 hf
              refine g_iconst (pc' := 602) (0 : Int32) dL_law_601 rfl (by decide) ?_
              cases hf
              exact g_zreturn dL_law_602 rfl (Or.inl rfl) (by show (k + 2) ≤ 601024; omega) (by show (u + 12) ≤ 7293034; omega)
        · have hf := ite_f c123 hf
          refine g_iconst (pc' := 585) (0 : Int32) dL_law_584 rfl (by decide) ?_
          cases hf
          exact g_zreturn dL_law_585 rfl (Or.inl rfl) (by show (k + 2) ≤ 601024; omega) (by show (u + 12) ≤ 7293034; omega)
      have hf := ite_f c110 hf
      by_cases c128 : ((xs v4.toNatClampNeg) &&& (31 : Int32)) = (8 : Int32)
      · have hf := ite_t c128 hf
        refine g_tsw (pc' := 606) (8 : Int32) dL_law_40 c128 (by decide) (by decide) rfl (by decide) ?_
        refine g_aload_n (pc' := 607) dL_law_606 rfl rfl ?_
        refine g_aload_n (pc' := 608) dL_law_607 rfl rfl ?_
        refine g_iload (pc' := 610) dL_law_608 rfl rfl ?_
        refine g_iconst (pc' := 611) (1 : Int32) dL_law_610 rfl (by decide) ?_
        refine g_iadd (pc' := 612) dL_law_611 rfl ?_
        obtain ⟨b129, hf⟩ := chk_s hf
        refine g_scrAt (pc' := 613) rfl dL_law_612 rfl (inB_in b129) ?_
        refine g_aload_n (pc' := 614) dL_law_613 rfl rfl ?_
        refine g_iload (pc' := 616) dL_law_614 rfl rfl ?_
        refine g_iconst (pc' := 617) (2 : Int32) dL_law_616 rfl (by decide) ?_
        refine g_iadd (pc' := 618) dL_law_617 rfl ?_
        obtain ⟨b130, hf⟩ := chk_s hf
        refine g_scrAt (pc' := 619) rfl dL_law_618 rfl (inB_in b130) ?_
        refine g_aload_n (pc' := 620) dL_law_619 rfl rfl ?_
        obtain ⟨r132, M131, e132, hf⟩ := bnd_some hf
        refine g_callSWi (pc' := 623) (k' := (k + 2)) (u' := (u + 12)) (fr2 := 8) (As := [aR v1, aI (xs (v4 + (1 : Int32)).toNatClampNeg), aI (xs (v4 + (2 : Int32)).toNatClampNeg), aR v3]) (st := []) cf_L_name q_935 (by omega) dL_law_620 rfl rfl rfl (Nat.le_of_ble_eq_true rfl) (Or.inl rfl) (by show k + 2 ≤ (k + 2); omega) (by show u + 12 ≤ (u + 12); omega) (by show (k + 2) ≤ 601024; omega) (by show (u + 12) ≤ 7293034; omega) (s_L_name v1 (xs (v4 + (1 : Int32)).toNatClampNeg) (xs (v4 + (2 : Int32)).toNatClampNeg) v3 M _ e132) ?_
        refine g_istore (pc' := 625) (lv' := [some (aR 4000000), some (aR v1), some (aR v2), some (aR v3), some (aI v4), some (aI r132), none]) dL_law_623 rfl rfl (Nat.le_of_ble_eq_true rfl) rfl ?_
        refine g_aload_n (pc' := 626) dL_law_625 rfl rfl ?_
        refine g_aload_n (pc' := 627) dL_law_626 rfl rfl ?_
        refine g_iload (pc' := 629) dL_law_627 rfl rfl ?_
        refine g_iconst (pc' := 630) (1 : Int32) dL_law_629 rfl (by decide) ?_
        refine g_iadd (pc' := 631) dL_law_630 rfl ?_
        obtain ⟨b133, hf⟩ := chk_s hf
        refine g_scrAt (pc' := 632) rfl dL_law_631 rfl (inB_in b133) ?_
        refine g_aload_n (pc' := 633) dL_law_632 rfl rfl ?_
        refine g_iload (pc' := 635) dL_law_633 rfl rfl ?_
        refine g_iconst (pc' := 636) (2 : Int32) dL_law_635 rfl (by decide) ?_
        refine g_iadd (pc' := 637) dL_law_636 rfl ?_
        obtain ⟨b134, hf⟩ := chk_s hf
        refine g_scrAt (pc' := 638) rfl dL_law_637 rfl (inB_in b134) ?_
        obtain ⟨h135, hf⟩ := chk_s hf
        obtain ⟨r137, M136, e137, hf⟩ := bnd_some hf
        refine g_callVi (pc' := 641) (k' := (k + 2)) (u' := (u + 12)) (fr2 := 3) (As := [aI (xs (v4 + (1 : Int32)).toNatClampNeg), aI (xs (v4 + (2 : Int32)).toNatClampNeg)]) (b := v2) (st := []) cf_X12_name q_943 (by omega) (ci := 12) rfl rfl (by decide) dL_law_638 rfl rfl rfl (Nat.le_of_ble_eq_true rfl) (Or.inl rfl) (by show (k + 2) + 0 ≤ (k + 2); omega) (by show (u + 12) + 0 ≤ (u + 12); omega) (by show (k + 2) ≤ 601024; omega) (by show (u + 12) ≤ 7293034; omega) h135 (s_X12_name v2 (xs (v4 + (1 : Int32)).toNatClampNeg) (xs (v4 + (2 : Int32)).toNatClampNeg) M131 _ e137) ?_
        refine g_istore (pc' := 643) (lv' := [some (aR 4000000), some (aR v1), some (aR v2), some (aR v3), some (aI v4), some (aI r132), some (aI r137)]) dL_law_641 rfl rfl (Nat.le_of_ble_eq_true rfl) rfl ?_
        refine g_aload_n (pc' := 644) dL_law_643 rfl rfl ?_
        obtain ⟨h138, hf⟩ := chk_s hf
        obtain ⟨r140, M139, e140, hf⟩ := bnd_some hf
        refine g_callVi (pc' := 647) (k' := (k + 2)) (u' := (u + 12)) (fr2 := 1) (As := []) (b := v2) (st := []) cf_X12_thrown q_463 (by omega) (ci := 12) rfl rfl (by decide) dL_law_644 rfl rfl rfl (Nat.le_of_ble_eq_true rfl) (Or.inl rfl) (by show (k + 2) + 0 ≤ (k + 2); omega) (by show (u + 12) + 0 ≤ (u + 12); omega) (by show (k + 2) ≤ 601024; omega) (by show (u + 12) ≤ 7293034; omega) h138 (s_X12_thrown v2 M136 _ e140) ?_
        refine g_iload (pc' := 649) dL_law_647 rfl rfl ?_
        refine g_icmp_eq (pc' := 652) 654 dL_law_649 rfl (by decide) (fun c141 => ?_) (fun c141 => ?_)
        · have hf := ite_t c141 hf
          refine g_iload (pc' := 656) dL_law_654 rfl rfl ?_
          refine g_if_ne (pc' := 659) 671 dL_law_656 rfl (by decide) (fun c142 => ?_) (fun c142 => ?_)
          · have hf := ite_f c142 hf
            refine g_mask [true, true, true, true, true, false, false] rfl ?_
            refine g_widen (k' := (k + 2)) (u' := (u + 12)) (by omega) (by omega) ?_
            exact s_L_law_671 L xs (f_L_law_23 L xs n) k u (by omega) (fun v1 v2 v3 v4 M r hf => ih (k + 3) (u + 1005) v1 v2 v3 v4 M r (by omega) hf) v1 v2 v3 v4 M139 _ hf
          · have hf := ite_t c142 hf
            refine g_aload_n (pc' := 660) dL_law_659 rfl rfl ?_
            refine g_iconst (pc' := 661) (0 : Int32) dL_law_660 rfl (by decide) ?_
            obtain ⟨h143, hf⟩ := chk_s hf
            obtain ⟨b144, hf⟩ := chk_s hf
            refine g_lald (pc' := 662) dL_law_661 rfl h143 (inB_in b144) ?_
            refine g_iload (pc' := 664) dL_law_662 rfl rfl ?_
            refine g_i2l (pc' := 665) dL_law_664 rfl ?_
            refine g_lcmp (pc' := 666) dL_law_665 rfl ?_
            refine g_if_eq (pc' := 669) 671 dL_law_666 rfl (by decide) (fun c145 => ?_) (fun c145 => ?_)
            · have hf := ite_t c145 hf
              refine g_mask [true, true, true, true, true, false, false] rfl ?_
              refine g_widen (k' := (k + 2)) (u' := (u + 12)) (by omega) (by omega) ?_
              exact s_L_law_671 L xs (f_L_law_23 L xs n) k u (by omega) (fun v1 v2 v3 v4 M r hf => ih (k + 3) (u + 1005) v1 v2 v3 v4 M r (by omega) hf) v1 v2 v3 v4 M139 _ hf
            · have hf := ite_f c145 hf
              refine g_iconst (pc' := 670) (0 : Int32) dL_law_669 rfl (by decide) ?_
              cases hf
              exact g_zreturn dL_law_670 rfl (Or.inl rfl) (by show (k + 2) ≤ 601024; omega) (by show (u + 12) ≤ 7293034; omega)
        · have hf := ite_f c141 hf
          refine g_iconst (pc' := 653) (0 : Int32) dL_law_652 rfl (by decide) ?_
          cases hf
          exact g_zreturn dL_law_653 rfl (Or.inl rfl) (by show (k + 2) ≤ 601024; omega) (by show (u + 12) ≤ 7293034; omega)
      have hf := ite_f c128 hf
      by_cases c146 : ((xs v4.toNatClampNeg) &&& (31 : Int32)) = (9 : Int32)
      · have hf := ite_t c146 hf
        refine g_tsw (pc' := 674) (9 : Int32) dL_law_40 c146 (by decide) (by decide) rfl (by decide) ?_
        refine g_aload_n (pc' := 675) dL_law_674 rfl rfl ?_
        refine g_aload_n (pc' := 676) dL_law_675 rfl rfl ?_
        refine g_iload (pc' := 678) dL_law_676 rfl rfl ?_
        refine g_iconst (pc' := 679) (1 : Int32) dL_law_678 rfl (by decide) ?_
        refine g_iadd (pc' := 680) dL_law_679 rfl ?_
        obtain ⟨b147, hf⟩ := chk_s hf
        refine g_scrAt (pc' := 681) rfl dL_law_680 rfl (inB_in b147) ?_
        refine g_aload_n (pc' := 682) dL_law_681 rfl rfl ?_
        refine g_iload (pc' := 684) dL_law_682 rfl rfl ?_
        refine g_iconst (pc' := 685) (2 : Int32) dL_law_684 rfl (by decide) ?_
        refine g_iadd (pc' := 686) dL_law_685 rfl ?_
        obtain ⟨b148, hf⟩ := chk_s hf
        refine g_scrAt (pc' := 687) rfl dL_law_686 rfl (inB_in b148) ?_
        refine g_aload_n (pc' := 688) dL_law_687 rfl rfl ?_
        obtain ⟨r150, M149, e150, hf⟩ := bnd_some hf
        refine g_callSWi (pc' := 691) (k' := (k + 2)) (u' := (u + 12)) (fr2 := 8) (As := [aR v1, aI (xs (v4 + (1 : Int32)).toNatClampNeg), aI (xs (v4 + (2 : Int32)).toNatClampNeg), aR v3]) (st := []) cf_L_leaf q_947 (by omega) dL_law_688 rfl rfl rfl (Nat.le_of_ble_eq_true rfl) (Or.inl rfl) (by show k + 2 ≤ (k + 2); omega) (by show u + 12 ≤ (u + 12); omega) (by show (k + 2) ≤ 601024; omega) (by show (u + 12) ≤ 7293034; omega) (s_L_leaf v1 (xs (v4 + (1 : Int32)).toNatClampNeg) (xs (v4 + (2 : Int32)).toNatClampNeg) v3 M _ e150) ?_
        refine g_istore (pc' := 693) (lv' := [some (aR 4000000), some (aR v1), some (aR v2), some (aR v3), some (aI v4), some (aI r150), none]) dL_law_691 rfl rfl (Nat.le_of_ble_eq_true rfl) rfl ?_
        refine g_aload_n (pc' := 694) dL_law_693 rfl rfl ?_
        refine g_aload_n (pc' := 695) dL_law_694 rfl rfl ?_
        refine g_iload (pc' := 697) dL_law_695 rfl rfl ?_
        refine g_iconst (pc' := 698) (1 : Int32) dL_law_697 rfl (by decide) ?_
        refine g_iadd (pc' := 699) dL_law_698 rfl ?_
        obtain ⟨b151, hf⟩ := chk_s hf
        refine g_scrAt (pc' := 700) rfl dL_law_699 rfl (inB_in b151) ?_
        refine g_aload_n (pc' := 701) dL_law_700 rfl rfl ?_
        refine g_iload (pc' := 703) dL_law_701 rfl rfl ?_
        refine g_iconst (pc' := 704) (2 : Int32) dL_law_703 rfl (by decide) ?_
        refine g_iadd (pc' := 705) dL_law_704 rfl ?_
        obtain ⟨b152, hf⟩ := chk_s hf
        refine g_scrAt (pc' := 706) rfl dL_law_705 rfl (inB_in b152) ?_
        obtain ⟨h153, hf⟩ := chk_s hf
        obtain ⟨r155, M154, e155, hf⟩ := bnd_some hf
        refine g_callVi (pc' := 709) (k' := (k + 2)) (u' := (u + 12)) (fr2 := 3) (As := [aI (xs (v4 + (1 : Int32)).toNatClampNeg), aI (xs (v4 + (2 : Int32)).toNatClampNeg)]) (b := v2) (st := []) cf_X12_leaf q_970 (by omega) (ci := 12) rfl rfl (by decide) dL_law_706 rfl rfl rfl (Nat.le_of_ble_eq_true rfl) (Or.inl rfl) (by show (k + 2) + 0 ≤ (k + 2); omega) (by show (u + 12) + 0 ≤ (u + 12); omega) (by show (k + 2) ≤ 601024; omega) (by show (u + 12) ≤ 7293034; omega) h153 (s_X12_leaf v2 (xs (v4 + (1 : Int32)).toNatClampNeg) (xs (v4 + (2 : Int32)).toNatClampNeg) M149 _ e155) ?_
        refine g_istore (pc' := 711) (lv' := [some (aR 4000000), some (aR v1), some (aR v2), some (aR v3), some (aI v4), some (aI r150), some (aI r155)]) dL_law_709 rfl rfl (Nat.le_of_ble_eq_true rfl) rfl ?_
        refine g_aload_n (pc' := 712) dL_law_711 rfl rfl ?_
        obtain ⟨h156, hf⟩ := chk_s hf
        obtain ⟨r158, M157, e158, hf⟩ := bnd_some hf
        refine g_callVi (pc' := 715) (k' := (k + 2)) (u' := (u + 12)) (fr2 := 1) (As := []) (b := v2) (st := []) cf_X12_thrown q_463 (by omega) (ci := 12) rfl rfl (by decide) dL_law_712 rfl rfl rfl (Nat.le_of_ble_eq_true rfl) (Or.inl rfl) (by show (k + 2) + 0 ≤ (k + 2); omega) (by show (u + 12) + 0 ≤ (u + 12); omega) (by show (k + 2) ≤ 601024; omega) (by show (u + 12) ≤ 7293034; omega) h156 (s_X12_thrown v2 M154 _ e158) ?_
        refine g_iload (pc' := 717) dL_law_715 rfl rfl ?_
        refine g_icmp_eq (pc' := 720) 722 dL_law_717 rfl (by decide) (fun c159 => ?_) (fun c159 => ?_)
        · have hf := ite_t c159 hf
          refine g_iload (pc' := 724) dL_law_722 rfl rfl ?_
          refine g_if_ne (pc' := 727) 739 dL_law_724 rfl (by decide) (fun c160 => ?_) (fun c160 => ?_)
          · have hf := ite_f c160 hf
            refine g_mask [true, true, true, true, true, false, false] rfl ?_
            refine g_widen (k' := (k + 2)) (u' := (u + 12)) (by omega) (by omega) ?_
            exact s_L_law_739 L xs (f_L_law_23 L xs n) k u (by omega) (fun v1 v2 v3 v4 M r hf => ih (k + 3) (u + 1005) v1 v2 v3 v4 M r (by omega) hf) v1 v2 v3 v4 M157 _ hf
          · have hf := ite_t c160 hf
            refine g_aload_n (pc' := 728) dL_law_727 rfl rfl ?_
            refine g_iconst (pc' := 729) (0 : Int32) dL_law_728 rfl (by decide) ?_
            obtain ⟨h161, hf⟩ := chk_s hf
            obtain ⟨b162, hf⟩ := chk_s hf
            refine g_lald (pc' := 730) dL_law_729 rfl h161 (inB_in b162) ?_
            refine g_iload (pc' := 732) dL_law_730 rfl rfl ?_
            refine g_i2l (pc' := 733) dL_law_732 rfl ?_
            refine g_lcmp (pc' := 734) dL_law_733 rfl ?_
            refine g_if_eq (pc' := 737) 739 dL_law_734 rfl (by decide) (fun c163 => ?_) (fun c163 => ?_)
            · have hf := ite_t c163 hf
              refine g_mask [true, true, true, true, true, false, false] rfl ?_
              refine g_widen (k' := (k + 2)) (u' := (u + 12)) (by omega) (by omega) ?_
              exact s_L_law_739 L xs (f_L_law_23 L xs n) k u (by omega) (fun v1 v2 v3 v4 M r hf => ih (k + 3) (u + 1005) v1 v2 v3 v4 M r (by omega) hf) v1 v2 v3 v4 M157 _ hf
            · have hf := ite_f c163 hf
              refine g_iconst (pc' := 738) (0 : Int32) dL_law_737 rfl (by decide) ?_
              cases hf
              exact g_zreturn dL_law_738 rfl (Or.inl rfl) (by show (k + 2) ≤ 601024; omega) (by show (u + 12) ≤ 7293034; omega)
        · have hf := ite_f c159 hf
          refine g_iconst (pc' := 721) (0 : Int32) dL_law_720 rfl (by decide) ?_
          cases hf
          exact g_zreturn dL_law_721 rfl (Or.inl rfl) (by show (k + 2) ≤ 601024; omega) (by show (u + 12) ≤ 7293034; omega)
      have hf := ite_f c146 hf
      by_cases c164 : ((xs v4.toNatClampNeg) &&& (31 : Int32)) = (10 : Int32)
      · have hf := ite_t c164 hf
        refine g_tsw (pc' := 742) (10 : Int32) dL_law_40 c164 (by decide) (by decide) rfl (by decide) ?_
        refine g_aload_n (pc' := 743) dL_law_742 rfl rfl ?_
        refine g_aload_n (pc' := 744) dL_law_743 rfl rfl ?_
        refine g_iload (pc' := 746) dL_law_744 rfl rfl ?_
        refine g_iconst (pc' := 747) (1 : Int32) dL_law_746 rfl (by decide) ?_
        refine g_iadd (pc' := 748) dL_law_747 rfl ?_
        obtain ⟨b165, hf⟩ := chk_s hf
        refine g_scrAt (pc' := 749) rfl dL_law_748 rfl (inB_in b165) ?_
        refine g_aload_n (pc' := 750) dL_law_749 rfl rfl ?_
        refine g_iload (pc' := 752) dL_law_750 rfl rfl ?_
        refine g_iconst (pc' := 753) (2 : Int32) dL_law_752 rfl (by decide) ?_
        refine g_iadd (pc' := 754) dL_law_753 rfl ?_
        obtain ⟨b166, hf⟩ := chk_s hf
        refine g_scrAt (pc' := 755) rfl dL_law_754 rfl (inB_in b166) ?_
        refine g_aload_n (pc' := 756) dL_law_755 rfl rfl ?_
        refine g_iload (pc' := 758) dL_law_756 rfl rfl ?_
        refine g_iconst (pc' := 759) (3 : Int32) dL_law_758 rfl (by decide) ?_
        refine g_iadd (pc' := 760) dL_law_759 rfl ?_
        obtain ⟨b167, hf⟩ := chk_s hf
        refine g_scrAt (pc' := 761) rfl dL_law_760 rfl (inB_in b167) ?_
        refine g_aload_n (pc' := 762) dL_law_761 rfl rfl ?_
        obtain ⟨r169, M168, e169, hf⟩ := bnd_some hf
        refine g_callSWi (pc' := 765) (k' := (k + 3)) (u' := (u + 18)) (fr2 := 9) (As := [aR v1, aI (xs (v4 + (1 : Int32)).toNatClampNeg), aI (xs (v4 + (2 : Int32)).toNatClampNeg), aI (xs (v4 + (3 : Int32)).toNatClampNeg), aR v3]) (st := []) cf_L_entry q_985 (by omega) dL_law_762 rfl rfl rfl (Nat.le_of_ble_eq_true rfl) (Or.inl rfl) (by show k + 3 ≤ (k + 3); omega) (by show u + 18 ≤ (u + 18); omega) (by show (k + 3) ≤ 601024; omega) (by show (u + 18) ≤ 7293034; omega) (s_L_entry v1 (xs (v4 + (1 : Int32)).toNatClampNeg) (xs (v4 + (2 : Int32)).toNatClampNeg) (xs (v4 + (3 : Int32)).toNatClampNeg) v3 M _ e169) ?_
        refine g_istore (pc' := 767) (lv' := [some (aR 4000000), some (aR v1), some (aR v2), some (aR v3), some (aI v4), some (aI r169), none]) dL_law_765 rfl rfl (Nat.le_of_ble_eq_true rfl) rfl ?_
        refine g_aload_n (pc' := 768) dL_law_767 rfl rfl ?_
        refine g_aload_n (pc' := 769) dL_law_768 rfl rfl ?_
        refine g_iload (pc' := 771) dL_law_769 rfl rfl ?_
        refine g_iconst (pc' := 772) (1 : Int32) dL_law_771 rfl (by decide) ?_
        refine g_iadd (pc' := 773) dL_law_772 rfl ?_
        obtain ⟨b170, hf⟩ := chk_s hf
        refine g_scrAt (pc' := 774) rfl dL_law_773 rfl (inB_in b170) ?_
        refine g_aload_n (pc' := 775) dL_law_774 rfl rfl ?_
        refine g_iload (pc' := 777) dL_law_775 rfl rfl ?_
        refine g_iconst (pc' := 778) (2 : Int32) dL_law_777 rfl (by decide) ?_
        refine g_iadd (pc' := 779) dL_law_778 rfl ?_
        obtain ⟨b171, hf⟩ := chk_s hf
        refine g_scrAt (pc' := 780) rfl dL_law_779 rfl (inB_in b171) ?_
        refine g_aload_n (pc' := 781) dL_law_780 rfl rfl ?_
        refine g_iload (pc' := 783) dL_law_781 rfl rfl ?_
        refine g_iconst (pc' := 784) (3 : Int32) dL_law_783 rfl (by decide) ?_
        refine g_iadd (pc' := 785) dL_law_784 rfl ?_
        obtain ⟨b172, hf⟩ := chk_s hf
        refine g_scrAt (pc' := 786) rfl dL_law_785 rfl (inB_in b172) ?_
        obtain ⟨h173, hf⟩ := chk_s hf
        obtain ⟨r175, M174, e175, hf⟩ := bnd_some hf
        refine g_callVi (pc' := 789) (k' := (k + 3)) (u' := (u + 18)) (fr2 := 4) (As := [aI (xs (v4 + (1 : Int32)).toNatClampNeg), aI (xs (v4 + (2 : Int32)).toNatClampNeg), aI (xs (v4 + (3 : Int32)).toNatClampNeg)]) (b := v2) (st := []) cf_X12_entry q_1002 (by omega) (ci := 12) rfl rfl (by decide) dL_law_786 rfl rfl rfl (Nat.le_of_ble_eq_true rfl) (Or.inl rfl) (by show (k + 3) + 0 ≤ (k + 3); omega) (by show (u + 18) + 0 ≤ (u + 18); omega) (by show (k + 3) ≤ 601024; omega) (by show (u + 18) ≤ 7293034; omega) h173 (s_X12_entry v2 (xs (v4 + (1 : Int32)).toNatClampNeg) (xs (v4 + (2 : Int32)).toNatClampNeg) (xs (v4 + (3 : Int32)).toNatClampNeg) M168 _ e175) ?_
        refine g_istore (pc' := 791) (lv' := [some (aR 4000000), some (aR v1), some (aR v2), some (aR v3), some (aI v4), some (aI r169), some (aI r175)]) dL_law_789 rfl rfl (Nat.le_of_ble_eq_true rfl) rfl ?_
        refine g_aload_n (pc' := 792) dL_law_791 rfl rfl ?_
        obtain ⟨h176, hf⟩ := chk_s hf
        obtain ⟨r178, M177, e178, hf⟩ := bnd_some hf
        refine g_callVi (pc' := 795) (k' := (k + 3)) (u' := (u + 18)) (fr2 := 1) (As := []) (b := v2) (st := []) cf_X12_thrown q_463 (by omega) (ci := 12) rfl rfl (by decide) dL_law_792 rfl rfl rfl (Nat.le_of_ble_eq_true rfl) (Or.inl rfl) (by show (k + 3) + 0 ≤ (k + 3); omega) (by show (u + 18) + 0 ≤ (u + 18); omega) (by show (k + 3) ≤ 601024; omega) (by show (u + 18) ≤ 7293034; omega) h176 (s_X12_thrown v2 M174 _ e178) ?_
        refine g_iload (pc' := 797) dL_law_795 rfl rfl ?_
        refine g_icmp_eq (pc' := 800) 802 dL_law_797 rfl (by decide) (fun c179 => ?_) (fun c179 => ?_)
        · have hf := ite_t c179 hf
          refine g_iload (pc' := 804) dL_law_802 rfl rfl ?_
          refine g_if_ne (pc' := 807) 819 dL_law_804 rfl (by decide) (fun c180 => ?_) (fun c180 => ?_)
          · have hf := ite_f c180 hf
            refine g_mask [true, true, true, true, true, false, false] rfl ?_
            refine g_widen (k' := (k + 3)) (u' := (u + 18)) (by omega) (by omega) ?_
            exact s_L_law_819 L xs (f_L_law_23 L xs n) k u (by omega) (fun v1 v2 v3 v4 M r hf => ih (k + 3) (u + 1005) v1 v2 v3 v4 M r (by omega) hf) v1 v2 v3 v4 M177 _ hf
          · have hf := ite_t c180 hf
            refine g_aload_n (pc' := 808) dL_law_807 rfl rfl ?_
            refine g_iconst (pc' := 809) (0 : Int32) dL_law_808 rfl (by decide) ?_
            obtain ⟨h181, hf⟩ := chk_s hf
            obtain ⟨b182, hf⟩ := chk_s hf
            refine g_lald (pc' := 810) dL_law_809 rfl h181 (inB_in b182) ?_
            refine g_iload (pc' := 812) dL_law_810 rfl rfl ?_
            refine g_i2l (pc' := 813) dL_law_812 rfl ?_
            refine g_lcmp (pc' := 814) dL_law_813 rfl ?_
            refine g_if_eq (pc' := 817) 819 dL_law_814 rfl (by decide) (fun c183 => ?_) (fun c183 => ?_)
            · have hf := ite_t c183 hf
              refine g_mask [true, true, true, true, true, false, false] rfl ?_
              refine g_widen (k' := (k + 3)) (u' := (u + 18)) (by omega) (by omega) ?_
              exact s_L_law_819 L xs (f_L_law_23 L xs n) k u (by omega) (fun v1 v2 v3 v4 M r hf => ih (k + 3) (u + 1005) v1 v2 v3 v4 M r (by omega) hf) v1 v2 v3 v4 M177 _ hf
            · have hf := ite_f c183 hf
              refine g_iconst (pc' := 818) (0 : Int32) dL_law_817 rfl (by decide) ?_
              cases hf
              exact g_zreturn dL_law_818 rfl (Or.inl rfl) (by show (k + 3) ≤ 601024; omega) (by show (u + 18) ≤ 7293034; omega)
        · have hf := ite_f c179 hf
          refine g_iconst (pc' := 801) (0 : Int32) dL_law_800 rfl (by decide) ?_
          cases hf
          exact g_zreturn dL_law_801 rfl (Or.inl rfl) (by show (k + 3) ≤ 601024; omega) (by show (u + 18) ≤ 7293034; omega)
      have hf := ite_f c164 hf
      by_cases c184 : ((xs v4.toNatClampNeg) &&& (31 : Int32)) = (11 : Int32)
      · have hf := ite_t c184 hf
        refine g_tsw (pc' := 822) (11 : Int32) dL_law_40 c184 (by decide) (by decide) rfl (by decide) ?_
        refine g_aload_n (pc' := 823) dL_law_822 rfl rfl ?_
        refine g_aload_n (pc' := 824) dL_law_823 rfl rfl ?_
        refine g_iload (pc' := 826) dL_law_824 rfl rfl ?_
        refine g_iconst (pc' := 827) (1 : Int32) dL_law_826 rfl (by decide) ?_
        refine g_iadd (pc' := 828) dL_law_827 rfl ?_
        obtain ⟨b185, hf⟩ := chk_s hf
        refine g_scrAt (pc' := 829) rfl dL_law_828 rfl (inB_in b185) ?_
        refine g_aload_n (pc' := 830) dL_law_829 rfl rfl ?_
        refine g_iload (pc' := 832) dL_law_830 rfl rfl ?_
        refine g_iconst (pc' := 833) (2 : Int32) dL_law_832 rfl (by decide) ?_
        refine g_iadd (pc' := 834) dL_law_833 rfl ?_
        obtain ⟨b186, hf⟩ := chk_s hf
        refine g_scrAt (pc' := 835) rfl dL_law_834 rfl (inB_in b186) ?_
        refine g_aload_n (pc' := 836) dL_law_835 rfl rfl ?_
        refine g_iload (pc' := 838) dL_law_836 rfl rfl ?_
        refine g_iconst (pc' := 839) (3 : Int32) dL_law_838 rfl (by decide) ?_
        refine g_iadd (pc' := 840) dL_law_839 rfl ?_
        obtain ⟨b187, hf⟩ := chk_s hf
        refine g_scrAt (pc' := 841) rfl dL_law_840 rfl (inB_in b187) ?_
        refine g_aload_n (pc' := 842) dL_law_841 rfl rfl ?_
        obtain ⟨r189, M188, e189, hf⟩ := bnd_some hf
        refine g_callSWi (pc' := 845) (k' := (k + 3)) (u' := (u + 18)) (fr2 := 8) (As := [aR v1, aI (xs (v4 + (1 : Int32)).toNatClampNeg), aI (xs (v4 + (2 : Int32)).toNatClampNeg), aI (xs (v4 + (3 : Int32)).toNatClampNeg), aR v3]) (st := []) cf_L_skip q_1014 (by omega) dL_law_842 rfl rfl rfl (Nat.le_of_ble_eq_true rfl) (Or.inl rfl) (by show k + 3 ≤ (k + 3); omega) (by show u + 18 ≤ (u + 18); omega) (by show (k + 3) ≤ 601024; omega) (by show (u + 18) ≤ 7293034; omega) (s_L_skip v1 (xs (v4 + (1 : Int32)).toNatClampNeg) (xs (v4 + (2 : Int32)).toNatClampNeg) (xs (v4 + (3 : Int32)).toNatClampNeg) v3 M _ e189) ?_
        refine g_istore (pc' := 847) (lv' := [some (aR 4000000), some (aR v1), some (aR v2), some (aR v3), some (aI v4), some (aI r189), none]) dL_law_845 rfl rfl (Nat.le_of_ble_eq_true rfl) rfl ?_
        refine g_aload_n (pc' := 848) dL_law_847 rfl rfl ?_
        refine g_aload_n (pc' := 849) dL_law_848 rfl rfl ?_
        refine g_iload (pc' := 851) dL_law_849 rfl rfl ?_
        refine g_iconst (pc' := 852) (1 : Int32) dL_law_851 rfl (by decide) ?_
        refine g_iadd (pc' := 853) dL_law_852 rfl ?_
        obtain ⟨b190, hf⟩ := chk_s hf
        refine g_scrAt (pc' := 854) rfl dL_law_853 rfl (inB_in b190) ?_
        refine g_aload_n (pc' := 855) dL_law_854 rfl rfl ?_
        refine g_iload (pc' := 857) dL_law_855 rfl rfl ?_
        refine g_iconst (pc' := 858) (2 : Int32) dL_law_857 rfl (by decide) ?_
        refine g_iadd (pc' := 859) dL_law_858 rfl ?_
        obtain ⟨b191, hf⟩ := chk_s hf
        refine g_scrAt (pc' := 860) rfl dL_law_859 rfl (inB_in b191) ?_
        refine g_aload_n (pc' := 861) dL_law_860 rfl rfl ?_
        refine g_iload (pc' := 863) dL_law_861 rfl rfl ?_
        refine g_iconst (pc' := 864) (3 : Int32) dL_law_863 rfl (by decide) ?_
        refine g_iadd (pc' := 865) dL_law_864 rfl ?_
        obtain ⟨b192, hf⟩ := chk_s hf
        refine g_scrAt (pc' := 866) rfl dL_law_865 rfl (inB_in b192) ?_
        obtain ⟨h193, hf⟩ := chk_s hf
        obtain ⟨r195, M194, e195, hf⟩ := bnd_some hf
        refine g_callVi (pc' := 869) (k' := (k + 3)) (u' := (u + 18)) (fr2 := 4) (As := [aI (xs (v4 + (1 : Int32)).toNatClampNeg), aI (xs (v4 + (2 : Int32)).toNatClampNeg), aI (xs (v4 + (3 : Int32)).toNatClampNeg)]) (b := v2) (st := []) cf_X12_skip q_1030 (by omega) (ci := 12) rfl rfl (by decide) dL_law_866 rfl rfl rfl (Nat.le_of_ble_eq_true rfl) (Or.inl rfl) (by show (k + 3) + 0 ≤ (k + 3); omega) (by show (u + 18) + 0 ≤ (u + 18); omega) (by show (k + 3) ≤ 601024; omega) (by show (u + 18) ≤ 7293034; omega) h193 (s_X12_skip v2 (xs (v4 + (1 : Int32)).toNatClampNeg) (xs (v4 + (2 : Int32)).toNatClampNeg) (xs (v4 + (3 : Int32)).toNatClampNeg) M188 _ e195) ?_
        refine g_istore (pc' := 871) (lv' := [some (aR 4000000), some (aR v1), some (aR v2), some (aR v3), some (aI v4), some (aI r189), some (aI r195)]) dL_law_869 rfl rfl (Nat.le_of_ble_eq_true rfl) rfl ?_
        refine g_aload_n (pc' := 872) dL_law_871 rfl rfl ?_
        obtain ⟨h196, hf⟩ := chk_s hf
        obtain ⟨r198, M197, e198, hf⟩ := bnd_some hf
        refine g_callVi (pc' := 875) (k' := (k + 3)) (u' := (u + 18)) (fr2 := 1) (As := []) (b := v2) (st := []) cf_X12_thrown q_463 (by omega) (ci := 12) rfl rfl (by decide) dL_law_872 rfl rfl rfl (Nat.le_of_ble_eq_true rfl) (Or.inl rfl) (by show (k + 3) + 0 ≤ (k + 3); omega) (by show (u + 18) + 0 ≤ (u + 18); omega) (by show (k + 3) ≤ 601024; omega) (by show (u + 18) ≤ 7293034; omega) h196 (s_X12_thrown v2 M194 _ e198) ?_
        refine g_iload (pc' := 877) dL_law_875 rfl rfl ?_
        refine g_icmp_eq (pc' := 880) 882 dL_law_877 rfl (by decide) (fun c199 => ?_) (fun c199 => ?_)
        · have hf := ite_t c199 hf
          refine g_iload (pc' := 884) dL_law_882 rfl rfl ?_
          refine g_if_ne (pc' := 887) 899 dL_law_884 rfl (by decide) (fun c200 => ?_) (fun c200 => ?_)
          · have hf := ite_f c200 hf
            refine g_mask [true, true, true, true, true, false, false] rfl ?_
            refine g_widen (k' := (k + 3)) (u' := (u + 18)) (by omega) (by omega) ?_
            exact s_L_law_899 L xs (f_L_law_23 L xs n) k u (by omega) (fun v1 v2 v3 v4 M r hf => ih (k + 3) (u + 1005) v1 v2 v3 v4 M r (by omega) hf) v1 v2 v3 v4 M197 _ hf
          · have hf := ite_t c200 hf
            refine g_aload_n (pc' := 888) dL_law_887 rfl rfl ?_
            refine g_iconst (pc' := 889) (0 : Int32) dL_law_888 rfl (by decide) ?_
            obtain ⟨h201, hf⟩ := chk_s hf
            obtain ⟨b202, hf⟩ := chk_s hf
            refine g_lald (pc' := 890) dL_law_889 rfl h201 (inB_in b202) ?_
            refine g_iload (pc' := 892) dL_law_890 rfl rfl ?_
            refine g_i2l (pc' := 893) dL_law_892 rfl ?_
            refine g_lcmp (pc' := 894) dL_law_893 rfl ?_
            refine g_if_eq (pc' := 897) 899 dL_law_894 rfl (by decide) (fun c203 => ?_) (fun c203 => ?_)
            · have hf := ite_t c203 hf
              refine g_mask [true, true, true, true, true, false, false] rfl ?_
              refine g_widen (k' := (k + 3)) (u' := (u + 18)) (by omega) (by omega) ?_
              exact s_L_law_899 L xs (f_L_law_23 L xs n) k u (by omega) (fun v1 v2 v3 v4 M r hf => ih (k + 3) (u + 1005) v1 v2 v3 v4 M r (by omega) hf) v1 v2 v3 v4 M197 _ hf
            · have hf := ite_f c203 hf
              refine g_iconst (pc' := 898) (0 : Int32) dL_law_897 rfl (by decide) ?_
              cases hf
              exact g_zreturn dL_law_898 rfl (Or.inl rfl) (by show (k + 3) ≤ 601024; omega) (by show (u + 18) ≤ 7293034; omega)
        · have hf := ite_f c199 hf
          refine g_iconst (pc' := 881) (0 : Int32) dL_law_880 rfl (by decide) ?_
          cases hf
          exact g_zreturn dL_law_881 rfl (Or.inl rfl) (by show (k + 3) ≤ 601024; omega) (by show (u + 18) ≤ 7293034; omega)
      have hf := ite_f c184 hf
      by_cases c204 : ((xs v4.toNatClampNeg) &&& (31 : Int32)) = (12 : Int32)
      · have hf := ite_t c204 hf
        refine g_tsw (pc' := 902) (12 : Int32) dL_law_40 c204 (by decide) (by decide) rfl (by decide) ?_
        refine g_aload_n (pc' := 903) dL_law_902 rfl rfl ?_
        refine g_aload_n (pc' := 904) dL_law_903 rfl rfl ?_
        refine g_iload (pc' := 906) dL_law_904 rfl rfl ?_
        refine g_iconst (pc' := 907) (1 : Int32) dL_law_906 rfl (by decide) ?_
        refine g_iadd (pc' := 908) dL_law_907 rfl ?_
        obtain ⟨b205, hf⟩ := chk_s hf
        refine g_scrAt (pc' := 909) rfl dL_law_908 rfl (inB_in b205) ?_
        refine g_aload_n (pc' := 910) dL_law_909 rfl rfl ?_
        refine g_iload (pc' := 912) dL_law_910 rfl rfl ?_
        refine g_iconst (pc' := 913) (2 : Int32) dL_law_912 rfl (by decide) ?_
        refine g_iadd (pc' := 914) dL_law_913 rfl ?_
        obtain ⟨b206, hf⟩ := chk_s hf
        refine g_scrAt (pc' := 915) rfl dL_law_914 rfl (inB_in b206) ?_
        refine g_aload_n (pc' := 916) dL_law_915 rfl rfl ?_
        refine g_iload (pc' := 918) dL_law_916 rfl rfl ?_
        refine g_iconst (pc' := 919) (3 : Int32) dL_law_918 rfl (by decide) ?_
        refine g_iadd (pc' := 920) dL_law_919 rfl ?_
        obtain ⟨b207, hf⟩ := chk_s hf
        refine g_scrAt (pc' := 921) rfl dL_law_920 rfl (inB_in b207) ?_
        refine g_aload_n (pc' := 922) dL_law_921 rfl rfl ?_
        obtain ⟨r209, M208, e209, hf⟩ := bnd_some hf
        refine g_callSWi (pc' := 925) (k' := (k + 2)) (u' := (u + 12)) (fr2 := 8) (As := [aR v1, aI (xs (v4 + (1 : Int32)).toNatClampNeg), aI (xs (v4 + (2 : Int32)).toNatClampNeg), aI (xs (v4 + (3 : Int32)).toNatClampNeg), aR v3]) (st := []) cf_L_next q_1046 (by omega) dL_law_922 rfl rfl rfl (Nat.le_of_ble_eq_true rfl) (Or.inl rfl) (by show k + 2 ≤ (k + 2); omega) (by show u + 12 ≤ (u + 12); omega) (by show (k + 2) ≤ 601024; omega) (by show (u + 12) ≤ 7293034; omega) (s_L_next v1 (xs (v4 + (1 : Int32)).toNatClampNeg) (xs (v4 + (2 : Int32)).toNatClampNeg) (xs (v4 + (3 : Int32)).toNatClampNeg) v3 M _ e209) ?_
        refine g_istore (pc' := 927) (lv' := [some (aR 4000000), some (aR v1), some (aR v2), some (aR v3), some (aI v4), some (aI r209), none]) dL_law_925 rfl rfl (Nat.le_of_ble_eq_true rfl) rfl ?_
        refine g_aload_n (pc' := 928) dL_law_927 rfl rfl ?_
        refine g_aload_n (pc' := 929) dL_law_928 rfl rfl ?_
        refine g_iload (pc' := 931) dL_law_929 rfl rfl ?_
        refine g_iconst (pc' := 932) (1 : Int32) dL_law_931 rfl (by decide) ?_
        refine g_iadd (pc' := 933) dL_law_932 rfl ?_
        obtain ⟨b210, hf⟩ := chk_s hf
        refine g_scrAt (pc' := 934) rfl dL_law_933 rfl (inB_in b210) ?_
        refine g_aload_n (pc' := 935) dL_law_934 rfl rfl ?_
        refine g_iload (pc' := 937) dL_law_935 rfl rfl ?_
        refine g_iconst (pc' := 938) (2 : Int32) dL_law_937 rfl (by decide) ?_
        refine g_iadd (pc' := 939) dL_law_938 rfl ?_
        obtain ⟨b211, hf⟩ := chk_s hf
        refine g_scrAt (pc' := 940) rfl dL_law_939 rfl (inB_in b211) ?_
        refine g_aload_n (pc' := 941) dL_law_940 rfl rfl ?_
        refine g_iload (pc' := 943) dL_law_941 rfl rfl ?_
        refine g_iconst (pc' := 944) (3 : Int32) dL_law_943 rfl (by decide) ?_
        refine g_iadd (pc' := 945) dL_law_944 rfl ?_
        obtain ⟨b212, hf⟩ := chk_s hf
        refine g_scrAt (pc' := 946) rfl dL_law_945 rfl (inB_in b212) ?_
        obtain ⟨h213, hf⟩ := chk_s hf
        obtain ⟨r215, M214, e215, hf⟩ := bnd_some hf
        refine g_callVi (pc' := 949) (k' := (k + 2)) (u' := (u + 12)) (fr2 := 5) (As := [aI (xs (v4 + (1 : Int32)).toNatClampNeg), aI (xs (v4 + (2 : Int32)).toNatClampNeg), aI (xs (v4 + (3 : Int32)).toNatClampNeg)]) (b := v2) (st := []) cf_X12_next q_1065 (by omega) (ci := 12) rfl rfl (by decide) dL_law_946 rfl rfl rfl (Nat.le_of_ble_eq_true rfl) (Or.inl rfl) (by show (k + 2) + 0 ≤ (k + 2); omega) (by show (u + 12) + 0 ≤ (u + 12); omega) (by show (k + 2) ≤ 601024; omega) (by show (u + 12) ≤ 7293034; omega) h213 (s_X12_next v2 (xs (v4 + (1 : Int32)).toNatClampNeg) (xs (v4 + (2 : Int32)).toNatClampNeg) (xs (v4 + (3 : Int32)).toNatClampNeg) M208 _ e215) ?_
        refine g_istore (pc' := 951) (lv' := [some (aR 4000000), some (aR v1), some (aR v2), some (aR v3), some (aI v4), some (aI r209), some (aI r215)]) dL_law_949 rfl rfl (Nat.le_of_ble_eq_true rfl) rfl ?_
        refine g_aload_n (pc' := 952) dL_law_951 rfl rfl ?_
        obtain ⟨h216, hf⟩ := chk_s hf
        obtain ⟨r218, M217, e218, hf⟩ := bnd_some hf
        refine g_callVi (pc' := 955) (k' := (k + 2)) (u' := (u + 12)) (fr2 := 1) (As := []) (b := v2) (st := []) cf_X12_thrown q_463 (by omega) (ci := 12) rfl rfl (by decide) dL_law_952 rfl rfl rfl (Nat.le_of_ble_eq_true rfl) (Or.inl rfl) (by show (k + 2) + 0 ≤ (k + 2); omega) (by show (u + 12) + 0 ≤ (u + 12); omega) (by show (k + 2) ≤ 601024; omega) (by show (u + 12) ≤ 7293034; omega) h216 (s_X12_thrown v2 M214 _ e218) ?_
        refine g_iload (pc' := 957) dL_law_955 rfl rfl ?_
        refine g_icmp_eq (pc' := 960) 962 dL_law_957 rfl (by decide) (fun c219 => ?_) (fun c219 => ?_)
        · have hf := ite_t c219 hf
          refine g_iload (pc' := 964) dL_law_962 rfl rfl ?_
          refine g_if_ne (pc' := 967) 979 dL_law_964 rfl (by decide) (fun c220 => ?_) (fun c220 => ?_)
          · have hf := ite_f c220 hf
            refine g_mask [true, true, true, true, true, false, false] rfl ?_
            refine g_widen (k' := (k + 2)) (u' := (u + 12)) (by omega) (by omega) ?_
            exact s_L_law_979 L xs (f_L_law_23 L xs n) k u (by omega) (fun v1 v2 v3 v4 M r hf => ih (k + 3) (u + 1005) v1 v2 v3 v4 M r (by omega) hf) v1 v2 v3 v4 M217 _ hf
          · have hf := ite_t c220 hf
            refine g_aload_n (pc' := 968) dL_law_967 rfl rfl ?_
            refine g_iconst (pc' := 969) (0 : Int32) dL_law_968 rfl (by decide) ?_
            obtain ⟨h221, hf⟩ := chk_s hf
            obtain ⟨b222, hf⟩ := chk_s hf
            refine g_lald (pc' := 970) dL_law_969 rfl h221 (inB_in b222) ?_
            refine g_iload (pc' := 972) dL_law_970 rfl rfl ?_
            refine g_i2l (pc' := 973) dL_law_972 rfl ?_
            refine g_lcmp (pc' := 974) dL_law_973 rfl ?_
            refine g_if_eq (pc' := 977) 979 dL_law_974 rfl (by decide) (fun c223 => ?_) (fun c223 => ?_)
            · have hf := ite_t c223 hf
              refine g_mask [true, true, true, true, true, false, false] rfl ?_
              refine g_widen (k' := (k + 2)) (u' := (u + 12)) (by omega) (by omega) ?_
              exact s_L_law_979 L xs (f_L_law_23 L xs n) k u (by omega) (fun v1 v2 v3 v4 M r hf => ih (k + 3) (u + 1005) v1 v2 v3 v4 M r (by omega) hf) v1 v2 v3 v4 M217 _ hf
            · have hf := ite_f c223 hf
              refine g_iconst (pc' := 978) (0 : Int32) dL_law_977 rfl (by decide) ?_
              cases hf
              exact g_zreturn dL_law_978 rfl (Or.inl rfl) (by show (k + 2) ≤ 601024; omega) (by show (u + 12) ≤ 7293034; omega)
        · have hf := ite_f c219 hf
          refine g_iconst (pc' := 961) (0 : Int32) dL_law_960 rfl (by decide) ?_
          cases hf
          exact g_zreturn dL_law_961 rfl (Or.inl rfl) (by show (k + 2) ≤ 601024; omega) (by show (u + 12) ≤ 7293034; omega)
      have hf := ite_f c204 hf
      by_cases c224 : ((xs v4.toNatClampNeg) &&& (31 : Int32)) = (13 : Int32)
      · have hf := ite_t c224 hf
        refine g_tsw (pc' := 982) (13 : Int32) dL_law_40 c224 (by decide) (by decide) rfl (by decide) ?_
        refine g_aload_n (pc' := 983) dL_law_982 rfl rfl ?_
        refine g_aload_n (pc' := 984) dL_law_983 rfl rfl ?_
        refine g_iload (pc' := 986) dL_law_984 rfl rfl ?_
        refine g_iconst (pc' := 987) (1 : Int32) dL_law_986 rfl (by decide) ?_
        refine g_iadd (pc' := 988) dL_law_987 rfl ?_
        obtain ⟨b225, hf⟩ := chk_s hf
        refine g_scrAt (pc' := 989) rfl dL_law_988 rfl (inB_in b225) ?_
        refine g_aload_n (pc' := 990) dL_law_989 rfl rfl ?_
        refine g_iload (pc' := 992) dL_law_990 rfl rfl ?_
        refine g_iconst (pc' := 993) (2 : Int32) dL_law_992 rfl (by decide) ?_
        refine g_iadd (pc' := 994) dL_law_993 rfl ?_
        obtain ⟨b226, hf⟩ := chk_s hf
        refine g_scrAt (pc' := 995) rfl dL_law_994 rfl (inB_in b226) ?_
        refine g_aload_n (pc' := 996) dL_law_995 rfl rfl ?_
        obtain ⟨r228, M227, e228, hf⟩ := bnd_some hf
        refine g_callSWi (pc' := 999) (k' := (k + 2)) (u' := (u + 12)) (fr2 := 39) (As := [aR v1, aI (xs (v4 + (1 : Int32)).toNatClampNeg), aI (xs (v4 + (2 : Int32)).toNatClampNeg), aR v3]) (st := []) cf_L_length q_1082 (by omega) dL_law_996 rfl rfl rfl (Nat.le_of_ble_eq_true rfl) (Or.inl rfl) (by show k + 2 ≤ (k + 2); omega) (by show u + 12 ≤ (u + 12); omega) (by show (k + 2) ≤ 601024; omega) (by show (u + 12) ≤ 7293034; omega) (s_L_length v1 (xs (v4 + (1 : Int32)).toNatClampNeg) (xs (v4 + (2 : Int32)).toNatClampNeg) v3 M _ e228) ?_
        refine g_istore (pc' := 1001) (lv' := [some (aR 4000000), some (aR v1), some (aR v2), some (aR v3), some (aI v4), some (aI r228), none]) dL_law_999 rfl rfl (Nat.le_of_ble_eq_true rfl) rfl ?_
        refine g_aload_n (pc' := 1002) dL_law_1001 rfl rfl ?_
        refine g_aload_n (pc' := 1003) dL_law_1002 rfl rfl ?_
        refine g_iload (pc' := 1005) dL_law_1003 rfl rfl ?_
        refine g_iconst (pc' := 1006) (1 : Int32) dL_law_1005 rfl (by decide) ?_
        refine g_iadd (pc' := 1007) dL_law_1006 rfl ?_
        obtain ⟨b229, hf⟩ := chk_s hf
        refine g_scrAt (pc' := 1008) rfl dL_law_1007 rfl (inB_in b229) ?_
        refine g_aload_n (pc' := 1009) dL_law_1008 rfl rfl ?_
        refine g_iload (pc' := 1011) dL_law_1009 rfl rfl ?_
        refine g_iconst (pc' := 1012) (2 : Int32) dL_law_1011 rfl (by decide) ?_
        refine g_iadd (pc' := 1013) dL_law_1012 rfl ?_
        obtain ⟨b230, hf⟩ := chk_s hf
        refine g_scrAt (pc' := 1014) rfl dL_law_1013 rfl (inB_in b230) ?_
        obtain ⟨h231, hf⟩ := chk_s hf
        obtain ⟨r233, M232, e233, hf⟩ := bnd_some hf
        refine g_callVi (pc' := 1017) (k' := (k + 2)) (u' := (u + 12)) (fr2 := 38) (As := [aI (xs (v4 + (1 : Int32)).toNatClampNeg), aI (xs (v4 + (2 : Int32)).toNatClampNeg)]) (b := v2) (st := []) cf_X12_length q_1160 (by omega) (ci := 12) rfl rfl (by decide) dL_law_1014 rfl rfl rfl (Nat.le_of_ble_eq_true rfl) (Or.inl rfl) (by show (k + 2) + 0 ≤ (k + 2); omega) (by show (u + 12) + 0 ≤ (u + 12); omega) (by show (k + 2) ≤ 601024; omega) (by show (u + 12) ≤ 7293034; omega) h231 (s_X12_length v2 (xs (v4 + (1 : Int32)).toNatClampNeg) (xs (v4 + (2 : Int32)).toNatClampNeg) M227 _ e233) ?_
        refine g_istore (pc' := 1019) (lv' := [some (aR 4000000), some (aR v1), some (aR v2), some (aR v3), some (aI v4), some (aI r228), some (aI r233)]) dL_law_1017 rfl rfl (Nat.le_of_ble_eq_true rfl) rfl ?_
        refine g_aload_n (pc' := 1020) dL_law_1019 rfl rfl ?_
        obtain ⟨h234, hf⟩ := chk_s hf
        obtain ⟨r236, M235, e236, hf⟩ := bnd_some hf
        refine g_callVi (pc' := 1023) (k' := (k + 2)) (u' := (u + 12)) (fr2 := 1) (As := []) (b := v2) (st := []) cf_X12_thrown q_463 (by omega) (ci := 12) rfl rfl (by decide) dL_law_1020 rfl rfl rfl (Nat.le_of_ble_eq_true rfl) (Or.inl rfl) (by show (k + 2) + 0 ≤ (k + 2); omega) (by show (u + 12) + 0 ≤ (u + 12); omega) (by show (k + 2) ≤ 601024; omega) (by show (u + 12) ≤ 7293034; omega) h234 (s_X12_thrown v2 M232 _ e236) ?_
        refine g_iload (pc' := 1025) dL_law_1023 rfl rfl ?_
        refine g_icmp_eq (pc' := 1028) 1030 dL_law_1025 rfl (by decide) (fun c237 => ?_) (fun c237 => ?_)
        · have hf := ite_t c237 hf
          refine g_iload (pc' := 1032) dL_law_1030 rfl rfl ?_
          refine g_if_ne (pc' := 1035) 1047 dL_law_1032 rfl (by decide) (fun c238 => ?_) (fun c238 => ?_)
          · have hf := ite_f c238 hf
            refine g_mask [true, true, true, true, true, false, false] rfl ?_
            refine g_widen (k' := (k + 2)) (u' := (u + 12)) (by omega) (by omega) ?_
            exact s_L_law_1047 L xs (f_L_law_23 L xs n) k u (by omega) (fun v1 v2 v3 v4 M r hf => ih (k + 3) (u + 1005) v1 v2 v3 v4 M r (by omega) hf) v1 v2 v3 v4 M235 _ hf
          · have hf := ite_t c238 hf
            refine g_aload_n (pc' := 1036) dL_law_1035 rfl rfl ?_
            refine g_iconst (pc' := 1037) (0 : Int32) dL_law_1036 rfl (by decide) ?_
            obtain ⟨h239, hf⟩ := chk_s hf
            obtain ⟨b240, hf⟩ := chk_s hf
            refine g_lald (pc' := 1038) dL_law_1037 rfl h239 (inB_in b240) ?_
            refine g_iload (pc' := 1040) dL_law_1038 rfl rfl ?_
            refine g_i2l (pc' := 1041) dL_law_1040 rfl ?_
            refine g_lcmp (pc' := 1042) dL_law_1041 rfl ?_
            refine g_if_eq (pc' := 1045) 1047 dL_law_1042 rfl (by decide) (fun c241 => ?_) (fun c241 => ?_)
            · have hf := ite_t c241 hf
              refine g_mask [true, true, true, true, true, false, false] rfl ?_
              refine g_widen (k' := (k + 2)) (u' := (u + 12)) (by omega) (by omega) ?_
              exact s_L_law_1047 L xs (f_L_law_23 L xs n) k u (by omega) (fun v1 v2 v3 v4 M r hf => ih (k + 3) (u + 1005) v1 v2 v3 v4 M r (by omega) hf) v1 v2 v3 v4 M235 _ hf
            · have hf := ite_f c241 hf
              refine g_iconst (pc' := 1046) (0 : Int32) dL_law_1045 rfl (by decide) ?_
              cases hf
              exact g_zreturn dL_law_1046 rfl (Or.inl rfl) (by show (k + 2) ≤ 601024; omega) (by show (u + 12) ≤ 7293034; omega)
        · have hf := ite_f c237 hf
          refine g_iconst (pc' := 1029) (0 : Int32) dL_law_1028 rfl (by decide) ?_
          cases hf
          exact g_zreturn dL_law_1029 rfl (Or.inl rfl) (by show (k + 2) ≤ 601024; omega) (by show (u + 12) ≤ 7293034; omega)
      have hf := ite_f c224 hf
      by_cases c242 : ((xs v4.toNatClampNeg) &&& (31 : Int32)) = (14 : Int32)
      · have hf := ite_t c242 hf
        refine g_tsw (pc' := 1050) (14 : Int32) dL_law_40 c242 (by decide) (by decide) rfl (by decide) ?_
        refine g_aload_n (pc' := 1051) dL_law_1050 rfl rfl ?_
        refine g_aload_n (pc' := 1052) dL_law_1051 rfl rfl ?_
        refine g_iload (pc' := 1054) dL_law_1052 rfl rfl ?_
        refine g_iconst (pc' := 1055) (1 : Int32) dL_law_1054 rfl (by decide) ?_
        refine g_iadd (pc' := 1056) dL_law_1055 rfl ?_
        obtain ⟨b243, hf⟩ := chk_s hf
        refine g_scrAt (pc' := 1057) rfl dL_law_1056 rfl (inB_in b243) ?_
        refine g_aload_n (pc' := 1058) dL_law_1057 rfl rfl ?_
        refine g_iload (pc' := 1060) dL_law_1058 rfl rfl ?_
        refine g_iconst (pc' := 1061) (2 : Int32) dL_law_1060 rfl (by decide) ?_
        refine g_iadd (pc' := 1062) dL_law_1061 rfl ?_
        obtain ⟨b244, hf⟩ := chk_s hf
        refine g_scrAt (pc' := 1063) rfl dL_law_1062 rfl (inB_in b244) ?_
        refine g_aload_n (pc' := 1064) dL_law_1063 rfl rfl ?_
        refine g_iload (pc' := 1066) dL_law_1064 rfl rfl ?_
        refine g_iconst (pc' := 1067) (3 : Int32) dL_law_1066 rfl (by decide) ?_
        refine g_iadd (pc' := 1068) dL_law_1067 rfl ?_
        obtain ⟨b245, hf⟩ := chk_s hf
        refine g_scrAt (pc' := 1069) rfl dL_law_1068 rfl (inB_in b245) ?_
        refine g_aload_n (pc' := 1070) dL_law_1069 rfl rfl ?_
        obtain ⟨r247, M246, e247, hf⟩ := bnd_some hf
        refine g_callSWi (pc' := 1073) (k' := (k + 3)) (u' := (u + 18)) (fr2 := 39) (As := [aR v1, aI (xs (v4 + (1 : Int32)).toNatClampNeg), aI (xs (v4 + (2 : Int32)).toNatClampNeg), aI (xs (v4 + (3 : Int32)).toNatClampNeg), aR v3]) (st := []) cf_L_sign q_1203 (by omega) dL_law_1070 rfl rfl rfl (Nat.le_of_ble_eq_true rfl) (Or.inl rfl) (by show k + 3 ≤ (k + 3); omega) (by show u + 18 ≤ (u + 18); omega) (by show (k + 3) ≤ 601024; omega) (by show (u + 18) ≤ 7293034; omega) (s_L_sign v1 (xs (v4 + (1 : Int32)).toNatClampNeg) (xs (v4 + (2 : Int32)).toNatClampNeg) (xs (v4 + (3 : Int32)).toNatClampNeg) v3 M _ e247) ?_
        refine g_istore (pc' := 1075) (lv' := [some (aR 4000000), some (aR v1), some (aR v2), some (aR v3), some (aI v4), some (aI r247), none]) dL_law_1073 rfl rfl (Nat.le_of_ble_eq_true rfl) rfl ?_
        refine g_aload_n (pc' := 1076) dL_law_1075 rfl rfl ?_
        refine g_aload_n (pc' := 1077) dL_law_1076 rfl rfl ?_
        refine g_iload (pc' := 1079) dL_law_1077 rfl rfl ?_
        refine g_iconst (pc' := 1080) (1 : Int32) dL_law_1079 rfl (by decide) ?_
        refine g_iadd (pc' := 1081) dL_law_1080 rfl ?_
        obtain ⟨b248, hf⟩ := chk_s hf
        refine g_scrAt (pc' := 1082) rfl dL_law_1081 rfl (inB_in b248) ?_
        refine g_aload_n (pc' := 1083) dL_law_1082 rfl rfl ?_
        refine g_iload (pc' := 1085) dL_law_1083 rfl rfl ?_
        refine g_iconst (pc' := 1086) (2 : Int32) dL_law_1085 rfl (by decide) ?_
        refine g_iadd (pc' := 1087) dL_law_1086 rfl ?_
        obtain ⟨b249, hf⟩ := chk_s hf
        refine g_scrAt (pc' := 1088) rfl dL_law_1087 rfl (inB_in b249) ?_
        refine g_aload_n (pc' := 1089) dL_law_1088 rfl rfl ?_
        refine g_iload (pc' := 1091) dL_law_1089 rfl rfl ?_
        refine g_iconst (pc' := 1092) (3 : Int32) dL_law_1091 rfl (by decide) ?_
        refine g_iadd (pc' := 1093) dL_law_1092 rfl ?_
        obtain ⟨b250, hf⟩ := chk_s hf
        refine g_scrAt (pc' := 1094) rfl dL_law_1093 rfl (inB_in b250) ?_
        obtain ⟨h251, hf⟩ := chk_s hf
        obtain ⟨r253, M252, e253, hf⟩ := bnd_some hf
        refine g_callVi (pc' := 1097) (k' := (k + 3)) (u' := (u + 18)) (fr2 := 38) (As := [aI (xs (v4 + (1 : Int32)).toNatClampNeg), aI (xs (v4 + (2 : Int32)).toNatClampNeg), aI (xs (v4 + (3 : Int32)).toNatClampNeg)]) (b := v2) (st := []) cf_X12_sign q_1211 (by omega) (ci := 12) rfl rfl (by decide) dL_law_1094 rfl rfl rfl (Nat.le_of_ble_eq_true rfl) (Or.inl rfl) (by show (k + 3) + 0 ≤ (k + 3); omega) (by show (u + 18) + 0 ≤ (u + 18); omega) (by show (k + 3) ≤ 601024; omega) (by show (u + 18) ≤ 7293034; omega) h251 (s_X12_sign v2 (xs (v4 + (1 : Int32)).toNatClampNeg) (xs (v4 + (2 : Int32)).toNatClampNeg) (xs (v4 + (3 : Int32)).toNatClampNeg) M246 _ e253) ?_
        refine g_istore (pc' := 1099) (lv' := [some (aR 4000000), some (aR v1), some (aR v2), some (aR v3), some (aI v4), some (aI r247), some (aI r253)]) dL_law_1097 rfl rfl (Nat.le_of_ble_eq_true rfl) rfl ?_
        refine g_aload_n (pc' := 1100) dL_law_1099 rfl rfl ?_
        obtain ⟨h254, hf⟩ := chk_s hf
        obtain ⟨r256, M255, e256, hf⟩ := bnd_some hf
        refine g_callVi (pc' := 1103) (k' := (k + 3)) (u' := (u + 18)) (fr2 := 1) (As := []) (b := v2) (st := []) cf_X12_thrown q_463 (by omega) (ci := 12) rfl rfl (by decide) dL_law_1100 rfl rfl rfl (Nat.le_of_ble_eq_true rfl) (Or.inl rfl) (by show (k + 3) + 0 ≤ (k + 3); omega) (by show (u + 18) + 0 ≤ (u + 18); omega) (by show (k + 3) ≤ 601024; omega) (by show (u + 18) ≤ 7293034; omega) h254 (s_X12_thrown v2 M252 _ e256) ?_
        refine g_iload (pc' := 1105) dL_law_1103 rfl rfl ?_
        refine g_icmp_eq (pc' := 1108) 1110 dL_law_1105 rfl (by decide) (fun c257 => ?_) (fun c257 => ?_)
        · have hf := ite_t c257 hf
          refine g_iload (pc' := 1112) dL_law_1110 rfl rfl ?_
          refine g_if_ne (pc' := 1115) 1127 dL_law_1112 rfl (by decide) (fun c258 => ?_) (fun c258 => ?_)
          · have hf := ite_f c258 hf
            refine g_mask [true, true, true, true, true, false, false] rfl ?_
            refine g_widen (k' := (k + 3)) (u' := (u + 18)) (by omega) (by omega) ?_
            exact s_L_law_1127 L xs (f_L_law_23 L xs n) k u (by omega) (fun v1 v2 v3 v4 M r hf => ih (k + 3) (u + 1005) v1 v2 v3 v4 M r (by omega) hf) v1 v2 v3 v4 M255 _ hf
          · have hf := ite_t c258 hf
            refine g_aload_n (pc' := 1116) dL_law_1115 rfl rfl ?_
            refine g_iconst (pc' := 1117) (0 : Int32) dL_law_1116 rfl (by decide) ?_
            obtain ⟨h259, hf⟩ := chk_s hf
            obtain ⟨b260, hf⟩ := chk_s hf
            refine g_lald (pc' := 1118) dL_law_1117 rfl h259 (inB_in b260) ?_
            refine g_iload (pc' := 1120) dL_law_1118 rfl rfl ?_
            refine g_i2l (pc' := 1121) dL_law_1120 rfl ?_
            refine g_lcmp (pc' := 1122) dL_law_1121 rfl ?_
            refine g_if_eq (pc' := 1125) 1127 dL_law_1122 rfl (by decide) (fun c261 => ?_) (fun c261 => ?_)
            · have hf := ite_t c261 hf
              refine g_mask [true, true, true, true, true, false, false] rfl ?_
              refine g_widen (k' := (k + 3)) (u' := (u + 18)) (by omega) (by omega) ?_
              exact s_L_law_1127 L xs (f_L_law_23 L xs n) k u (by omega) (fun v1 v2 v3 v4 M r hf => ih (k + 3) (u + 1005) v1 v2 v3 v4 M r (by omega) hf) v1 v2 v3 v4 M255 _ hf
            · have hf := ite_f c261 hf
              refine g_iconst (pc' := 1126) (0 : Int32) dL_law_1125 rfl (by decide) ?_
              cases hf
              exact g_zreturn dL_law_1126 rfl (Or.inl rfl) (by show (k + 3) ≤ 601024; omega) (by show (u + 18) ≤ 7293034; omega)
        · have hf := ite_f c257 hf
          refine g_iconst (pc' := 1109) (0 : Int32) dL_law_1108 rfl (by decide) ?_
          cases hf
          exact g_zreturn dL_law_1109 rfl (Or.inl rfl) (by show (k + 3) ≤ 601024; omega) (by show (u + 18) ≤ 7293034; omega)
      have hf := ite_f c242 hf
      by_cases c262 : ((xs v4.toNatClampNeg) &&& (31 : Int32)) = (15 : Int32)
      · have hf := ite_t c262 hf
        refine g_tsw (pc' := 1130) (15 : Int32) dL_law_40 c262 (by decide) (by decide) rfl (by decide) ?_
        refine g_aload_n (pc' := 1131) dL_law_1130 rfl rfl ?_
        refine g_aload_n (pc' := 1132) dL_law_1131 rfl rfl ?_
        refine g_iload (pc' := 1134) dL_law_1132 rfl rfl ?_
        refine g_iconst (pc' := 1135) (1 : Int32) dL_law_1134 rfl (by decide) ?_
        refine g_iadd (pc' := 1136) dL_law_1135 rfl ?_
        obtain ⟨b263, hf⟩ := chk_s hf
        refine g_scrAt (pc' := 1137) rfl dL_law_1136 rfl (inB_in b263) ?_
        refine g_aload_n (pc' := 1138) dL_law_1137 rfl rfl ?_
        refine g_iload (pc' := 1140) dL_law_1138 rfl rfl ?_
        refine g_iconst (pc' := 1141) (2 : Int32) dL_law_1140 rfl (by decide) ?_
        refine g_iadd (pc' := 1142) dL_law_1141 rfl ?_
        obtain ⟨b264, hf⟩ := chk_s hf
        refine g_scrAt (pc' := 1143) rfl dL_law_1142 rfl (inB_in b264) ?_
        refine g_aload_n (pc' := 1144) dL_law_1143 rfl rfl ?_
        obtain ⟨r266, M265, e266, hf⟩ := bnd_some hf
        refine g_callSWi (pc' := 1147) (k' := (k + 2)) (u' := (u + 12)) (fr2 := 8) (As := [aR v1, aI (xs (v4 + (1 : Int32)).toNatClampNeg), aI (xs (v4 + (2 : Int32)).toNatClampNeg), aR v3]) (st := []) cf_L_reads q_1215 (by omega) dL_law_1144 rfl rfl rfl (Nat.le_of_ble_eq_true rfl) (Or.inl rfl) (by show k + 2 ≤ (k + 2); omega) (by show u + 12 ≤ (u + 12); omega) (by show (k + 2) ≤ 601024; omega) (by show (u + 12) ≤ 7293034; omega) (s_L_reads v1 (xs (v4 + (1 : Int32)).toNatClampNeg) (xs (v4 + (2 : Int32)).toNatClampNeg) v3 M _ e266) ?_
        refine g_istore (pc' := 1149) (lv' := [some (aR 4000000), some (aR v1), some (aR v2), some (aR v3), some (aI v4), some (aI r266), none]) dL_law_1147 rfl rfl (Nat.le_of_ble_eq_true rfl) rfl ?_
        refine g_aload_n (pc' := 1150) dL_law_1149 rfl rfl ?_
        refine g_aload_n (pc' := 1151) dL_law_1150 rfl rfl ?_
        refine g_iload (pc' := 1153) dL_law_1151 rfl rfl ?_
        refine g_iconst (pc' := 1154) (1 : Int32) dL_law_1153 rfl (by decide) ?_
        refine g_iadd (pc' := 1155) dL_law_1154 rfl ?_
        obtain ⟨b267, hf⟩ := chk_s hf
        refine g_scrAt (pc' := 1156) rfl dL_law_1155 rfl (inB_in b267) ?_
        refine g_aload_n (pc' := 1157) dL_law_1156 rfl rfl ?_
        refine g_iload (pc' := 1159) dL_law_1157 rfl rfl ?_
        refine g_iconst (pc' := 1160) (2 : Int32) dL_law_1159 rfl (by decide) ?_
        refine g_iadd (pc' := 1161) dL_law_1160 rfl ?_
        obtain ⟨b268, hf⟩ := chk_s hf
        refine g_scrAt (pc' := 1162) rfl dL_law_1161 rfl (inB_in b268) ?_
        obtain ⟨h269, hf⟩ := chk_s hf
        obtain ⟨r271, M270, e271, hf⟩ := bnd_some hf
        refine g_callVi (pc' := 1165) (k' := (k + 2)) (u' := (u + 12)) (fr2 := 6) (As := [aI (xs (v4 + (1 : Int32)).toNatClampNeg), aI (xs (v4 + (2 : Int32)).toNatClampNeg)]) (b := v2) (st := []) cf_X12_reads q_1227 (by omega) (ci := 12) rfl rfl (by decide) dL_law_1162 rfl rfl rfl (Nat.le_of_ble_eq_true rfl) (Or.inl rfl) (by show (k + 2) + 0 ≤ (k + 2); omega) (by show (u + 12) + 0 ≤ (u + 12); omega) (by show (k + 2) ≤ 601024; omega) (by show (u + 12) ≤ 7293034; omega) h269 (s_X12_reads v2 (xs (v4 + (1 : Int32)).toNatClampNeg) (xs (v4 + (2 : Int32)).toNatClampNeg) M265 _ e271) ?_
        refine g_istore (pc' := 1167) (lv' := [some (aR 4000000), some (aR v1), some (aR v2), some (aR v3), some (aI v4), some (aI r266), some (aI r271)]) dL_law_1165 rfl rfl (Nat.le_of_ble_eq_true rfl) rfl ?_
        refine g_aload_n (pc' := 1168) dL_law_1167 rfl rfl ?_
        obtain ⟨h272, hf⟩ := chk_s hf
        obtain ⟨r274, M273, e274, hf⟩ := bnd_some hf
        refine g_callVi (pc' := 1171) (k' := (k + 2)) (u' := (u + 12)) (fr2 := 1) (As := []) (b := v2) (st := []) cf_X12_thrown q_463 (by omega) (ci := 12) rfl rfl (by decide) dL_law_1168 rfl rfl rfl (Nat.le_of_ble_eq_true rfl) (Or.inl rfl) (by show (k + 2) + 0 ≤ (k + 2); omega) (by show (u + 12) + 0 ≤ (u + 12); omega) (by show (k + 2) ≤ 601024; omega) (by show (u + 12) ≤ 7293034; omega) h272 (s_X12_thrown v2 M270 _ e274) ?_
        refine g_iload (pc' := 1173) dL_law_1171 rfl rfl ?_
        refine g_icmp_eq (pc' := 1176) 1178 dL_law_1173 rfl (by decide) (fun c275 => ?_) (fun c275 => ?_)
        · have hf := ite_t c275 hf
          refine g_iload (pc' := 1180) dL_law_1178 rfl rfl ?_
          refine g_if_ne (pc' := 1183) 1195 dL_law_1180 rfl (by decide) (fun c276 => ?_) (fun c276 => ?_)
          · have hf := ite_f c276 hf
            refine g_mask [true, true, true, true, true, false, false] rfl ?_
            refine g_widen (k' := (k + 2)) (u' := (u + 12)) (by omega) (by omega) ?_
            exact s_L_law_1195 L xs (f_L_law_23 L xs n) k u (by omega) (fun v1 v2 v3 v4 M r hf => ih (k + 3) (u + 1005) v1 v2 v3 v4 M r (by omega) hf) v1 v2 v3 v4 M273 _ hf
          · have hf := ite_t c276 hf
            refine g_aload_n (pc' := 1184) dL_law_1183 rfl rfl ?_
            refine g_iconst (pc' := 1185) (0 : Int32) dL_law_1184 rfl (by decide) ?_
            obtain ⟨h277, hf⟩ := chk_s hf
            obtain ⟨b278, hf⟩ := chk_s hf
            refine g_lald (pc' := 1186) dL_law_1185 rfl h277 (inB_in b278) ?_
            refine g_iload (pc' := 1188) dL_law_1186 rfl rfl ?_
            refine g_i2l (pc' := 1189) dL_law_1188 rfl ?_
            refine g_lcmp (pc' := 1190) dL_law_1189 rfl ?_
            refine g_if_eq (pc' := 1193) 1195 dL_law_1190 rfl (by decide) (fun c279 => ?_) (fun c279 => ?_)
            · have hf := ite_t c279 hf
              refine g_mask [true, true, true, true, true, false, false] rfl ?_
              refine g_widen (k' := (k + 2)) (u' := (u + 12)) (by omega) (by omega) ?_
              exact s_L_law_1195 L xs (f_L_law_23 L xs n) k u (by omega) (fun v1 v2 v3 v4 M r hf => ih (k + 3) (u + 1005) v1 v2 v3 v4 M r (by omega) hf) v1 v2 v3 v4 M273 _ hf
            · have hf := ite_f c279 hf
              refine g_iconst (pc' := 1194) (0 : Int32) dL_law_1193 rfl (by decide) ?_
              cases hf
              exact g_zreturn dL_law_1194 rfl (Or.inl rfl) (by show (k + 2) ≤ 601024; omega) (by show (u + 12) ≤ 7293034; omega)
        · have hf := ite_f c275 hf
          refine g_iconst (pc' := 1177) (0 : Int32) dL_law_1176 rfl (by decide) ?_
          cases hf
          exact g_zreturn dL_law_1177 rfl (Or.inl rfl) (by show (k + 2) ≤ 601024; omega) (by show (u + 12) ≤ 7293034; omega)
      have hf := ite_f c262 hf
      by_cases c280 : ((xs v4.toNatClampNeg) &&& (31 : Int32)) = (16 : Int32)
      · have hf := ite_t c280 hf
        refine g_tsw (pc' := 1198) (16 : Int32) dL_law_40 c280 (by decide) (by decide) rfl (by decide) ?_
        refine g_aload_n (pc' := 1199) dL_law_1198 rfl rfl ?_
        refine g_aload_n (pc' := 1200) dL_law_1199 rfl rfl ?_
        refine g_iload (pc' := 1202) dL_law_1200 rfl rfl ?_
        refine g_iconst (pc' := 1203) (1 : Int32) dL_law_1202 rfl (by decide) ?_
        refine g_iadd (pc' := 1204) dL_law_1203 rfl ?_
        obtain ⟨b281, hf⟩ := chk_s hf
        refine g_scrAt (pc' := 1205) rfl dL_law_1204 rfl (inB_in b281) ?_
        refine g_aload_n (pc' := 1206) dL_law_1205 rfl rfl ?_
        obtain ⟨r283, M282, e283, hf⟩ := bnd_some hf
        refine g_callSWi (pc' := 1209) (k' := (k + 1)) (u' := (u + 6)) (fr2 := 39) (As := [aR v1, aI (xs (v4 + (1 : Int32)).toNatClampNeg), aR v3]) (st := []) cf_L_seen q_1235 (by omega) dL_law_1206 rfl rfl rfl (Nat.le_of_ble_eq_true rfl) (Or.inl rfl) (by show k + 1 ≤ (k + 1); omega) (by show u + 6 ≤ (u + 6); omega) (by show (k + 1) ≤ 601024; omega) (by show (u + 6) ≤ 7293034; omega) (s_L_seen v1 (xs (v4 + (1 : Int32)).toNatClampNeg) v3 M _ e283) ?_
        refine g_istore (pc' := 1211) (lv' := [some (aR 4000000), some (aR v1), some (aR v2), some (aR v3), some (aI v4), some (aI r283), none]) dL_law_1209 rfl rfl (Nat.le_of_ble_eq_true rfl) rfl ?_
        refine g_aload_n (pc' := 1212) dL_law_1211 rfl rfl ?_
        refine g_aload_n (pc' := 1213) dL_law_1212 rfl rfl ?_
        refine g_iload (pc' := 1215) dL_law_1213 rfl rfl ?_
        refine g_iconst (pc' := 1216) (1 : Int32) dL_law_1215 rfl (by decide) ?_
        refine g_iadd (pc' := 1217) dL_law_1216 rfl ?_
        obtain ⟨b284, hf⟩ := chk_s hf
        refine g_scrAt (pc' := 1218) rfl dL_law_1217 rfl (inB_in b284) ?_
        obtain ⟨h285, hf⟩ := chk_s hf
        obtain ⟨r287, M286, e287, hf⟩ := bnd_some hf
        refine g_callVi (pc' := 1221) (k' := (k + 1)) (u' := (u + 6)) (fr2 := 38) (As := [aI (xs (v4 + (1 : Int32)).toNatClampNeg)]) (b := v2) (st := []) cf_X12_seen q_1242 (by omega) (ci := 12) rfl rfl (by decide) dL_law_1218 rfl rfl rfl (Nat.le_of_ble_eq_true rfl) (Or.inl rfl) (by show (k + 1) + 0 ≤ (k + 1); omega) (by show (u + 6) + 0 ≤ (u + 6); omega) (by show (k + 1) ≤ 601024; omega) (by show (u + 6) ≤ 7293034; omega) h285 (s_X12_seen v2 (xs (v4 + (1 : Int32)).toNatClampNeg) M282 _ e287) ?_
        refine g_istore (pc' := 1223) (lv' := [some (aR 4000000), some (aR v1), some (aR v2), some (aR v3), some (aI v4), some (aI r283), some (aI r287)]) dL_law_1221 rfl rfl (Nat.le_of_ble_eq_true rfl) rfl ?_
        refine g_aload_n (pc' := 1224) dL_law_1223 rfl rfl ?_
        obtain ⟨h288, hf⟩ := chk_s hf
        obtain ⟨r290, M289, e290, hf⟩ := bnd_some hf
        refine g_callVi (pc' := 1227) (k' := (k + 1)) (u' := (u + 6)) (fr2 := 1) (As := []) (b := v2) (st := []) cf_X12_thrown q_463 (by omega) (ci := 12) rfl rfl (by decide) dL_law_1224 rfl rfl rfl (Nat.le_of_ble_eq_true rfl) (Or.inl rfl) (by show (k + 1) + 0 ≤ (k + 1); omega) (by show (u + 6) + 0 ≤ (u + 6); omega) (by show (k + 1) ≤ 601024; omega) (by show (u + 6) ≤ 7293034; omega) h288 (s_X12_thrown v2 M286 _ e290) ?_
        refine g_iload (pc' := 1229) dL_law_1227 rfl rfl ?_
        refine g_icmp_eq (pc' := 1232) 1234 dL_law_1229 rfl (by decide) (fun c291 => ?_) (fun c291 => ?_)
        · have hf := ite_t c291 hf
          refine g_iload (pc' := 1236) dL_law_1234 rfl rfl ?_
          refine g_if_ne (pc' := 1239) 1251 dL_law_1236 rfl (by decide) (fun c292 => ?_) (fun c292 => ?_)
          · have hf := ite_f c292 hf
            refine g_mask [true, true, true, true, true, false, false] rfl ?_
            refine g_widen (k' := (k + 1)) (u' := (u + 6)) (by omega) (by omega) ?_
            exact s_L_law_1251 L xs (f_L_law_23 L xs n) k u (by omega) (fun v1 v2 v3 v4 M r hf => ih (k + 3) (u + 1005) v1 v2 v3 v4 M r (by omega) hf) v1 v2 v3 v4 M289 _ hf
          · have hf := ite_t c292 hf
            refine g_aload_n (pc' := 1240) dL_law_1239 rfl rfl ?_
            refine g_iconst (pc' := 1241) (0 : Int32) dL_law_1240 rfl (by decide) ?_
            obtain ⟨h293, hf⟩ := chk_s hf
            obtain ⟨b294, hf⟩ := chk_s hf
            refine g_lald (pc' := 1242) dL_law_1241 rfl h293 (inB_in b294) ?_
            refine g_iload (pc' := 1244) dL_law_1242 rfl rfl ?_
            refine g_i2l (pc' := 1245) dL_law_1244 rfl ?_
            refine g_lcmp (pc' := 1246) dL_law_1245 rfl ?_
            refine g_if_eq (pc' := 1249) 1251 dL_law_1246 rfl (by decide) (fun c295 => ?_) (fun c295 => ?_)
            · have hf := ite_t c295 hf
              refine g_mask [true, true, true, true, true, false, false] rfl ?_
              refine g_widen (k' := (k + 1)) (u' := (u + 6)) (by omega) (by omega) ?_
              exact s_L_law_1251 L xs (f_L_law_23 L xs n) k u (by omega) (fun v1 v2 v3 v4 M r hf => ih (k + 3) (u + 1005) v1 v2 v3 v4 M r (by omega) hf) v1 v2 v3 v4 M289 _ hf
            · have hf := ite_f c295 hf
              refine g_iconst (pc' := 1250) (0 : Int32) dL_law_1249 rfl (by decide) ?_
              cases hf
              exact g_zreturn dL_law_1250 rfl (Or.inl rfl) (by show (k + 1) ≤ 601024; omega) (by show (u + 6) ≤ 7293034; omega)
        · have hf := ite_f c291 hf
          refine g_iconst (pc' := 1233) (0 : Int32) dL_law_1232 rfl (by decide) ?_
          cases hf
          exact g_zreturn dL_law_1233 rfl (Or.inl rfl) (by show (k + 1) ≤ 601024; omega) (by show (u + 6) ≤ 7293034; omega)
      have hf := ite_f c280 hf
      by_cases c296 : ((xs v4.toNatClampNeg) &&& (31 : Int32)) = (17 : Int32)
      · have hf := ite_t c296 hf
        refine g_tsw (pc' := 1254) (17 : Int32) dL_law_40 c296 (by decide) (by decide) rfl (by decide) ?_
        refine g_aload_n (pc' := 1255) dL_law_1254 rfl rfl ?_
        refine g_aload_n (pc' := 1256) dL_law_1255 rfl rfl ?_
        refine g_iload (pc' := 1258) dL_law_1256 rfl rfl ?_
        refine g_iconst (pc' := 1259) (1 : Int32) dL_law_1258 rfl (by decide) ?_
        refine g_iadd (pc' := 1260) dL_law_1259 rfl ?_
        obtain ⟨b297, hf⟩ := chk_s hf
        refine g_scrAt (pc' := 1261) rfl dL_law_1260 rfl (inB_in b297) ?_
        refine g_aload_n (pc' := 1262) dL_law_1261 rfl rfl ?_
        refine g_iload (pc' := 1264) dL_law_1262 rfl rfl ?_
        refine g_iconst (pc' := 1265) (2 : Int32) dL_law_1264 rfl (by decide) ?_
        refine g_iadd (pc' := 1266) dL_law_1265 rfl ?_
        obtain ⟨b298, hf⟩ := chk_s hf
        refine g_scrAt (pc' := 1267) rfl dL_law_1266 rfl (inB_in b298) ?_
        refine g_aload_n (pc' := 1268) dL_law_1267 rfl rfl ?_
        obtain ⟨r300, M299, e300, hf⟩ := bnd_some hf
        refine g_callSWi (pc' := 1271) (k' := (k + 2)) (u' := (u + 12)) (fr2 := 39) (As := [aR v1, aI (xs (v4 + (1 : Int32)).toNatClampNeg), aI (xs (v4 + (2 : Int32)).toNatClampNeg), aR v3]) (st := []) cf_L_seenSign q_1250 (by omega) dL_law_1268 rfl rfl rfl (Nat.le_of_ble_eq_true rfl) (Or.inl rfl) (by show k + 2 ≤ (k + 2); omega) (by show u + 12 ≤ (u + 12); omega) (by show (k + 2) ≤ 601024; omega) (by show (u + 12) ≤ 7293034; omega) (s_L_seenSign v1 (xs (v4 + (1 : Int32)).toNatClampNeg) (xs (v4 + (2 : Int32)).toNatClampNeg) v3 M _ e300) ?_
        refine g_istore (pc' := 1273) (lv' := [some (aR 4000000), some (aR v1), some (aR v2), some (aR v3), some (aI v4), some (aI r300), none]) dL_law_1271 rfl rfl (Nat.le_of_ble_eq_true rfl) rfl ?_
        refine g_aload_n (pc' := 1274) dL_law_1273 rfl rfl ?_
        refine g_aload_n (pc' := 1275) dL_law_1274 rfl rfl ?_
        refine g_iload (pc' := 1277) dL_law_1275 rfl rfl ?_
        refine g_iconst (pc' := 1278) (1 : Int32) dL_law_1277 rfl (by decide) ?_
        refine g_iadd (pc' := 1279) dL_law_1278 rfl ?_
        obtain ⟨b301, hf⟩ := chk_s hf
        refine g_scrAt (pc' := 1280) rfl dL_law_1279 rfl (inB_in b301) ?_
        refine g_aload_n (pc' := 1281) dL_law_1280 rfl rfl ?_
        refine g_iload (pc' := 1283) dL_law_1281 rfl rfl ?_
        refine g_iconst (pc' := 1284) (2 : Int32) dL_law_1283 rfl (by decide) ?_
        refine g_iadd (pc' := 1285) dL_law_1284 rfl ?_
        obtain ⟨b302, hf⟩ := chk_s hf
        refine g_scrAt (pc' := 1286) rfl dL_law_1285 rfl (inB_in b302) ?_
        obtain ⟨h303, hf⟩ := chk_s hf
        obtain ⟨r305, M304, e305, hf⟩ := bnd_some hf
        refine g_callVi (pc' := 1289) (k' := (k + 2)) (u' := (u + 12)) (fr2 := 38) (As := [aI (xs (v4 + (1 : Int32)).toNatClampNeg), aI (xs (v4 + (2 : Int32)).toNatClampNeg)]) (b := v2) (st := []) cf_X12_seenSign q_1257 (by omega) (ci := 12) rfl rfl (by decide) dL_law_1286 rfl rfl rfl (Nat.le_of_ble_eq_true rfl) (Or.inl rfl) (by show (k + 2) + 0 ≤ (k + 2); omega) (by show (u + 12) + 0 ≤ (u + 12); omega) (by show (k + 2) ≤ 601024; omega) (by show (u + 12) ≤ 7293034; omega) h303 (s_X12_seenSign v2 (xs (v4 + (1 : Int32)).toNatClampNeg) (xs (v4 + (2 : Int32)).toNatClampNeg) M299 _ e305) ?_
        refine g_istore (pc' := 1291) (lv' := [some (aR 4000000), some (aR v1), some (aR v2), some (aR v3), some (aI v4), some (aI r300), some (aI r305)]) dL_law_1289 rfl rfl (Nat.le_of_ble_eq_true rfl) rfl ?_
        refine g_aload_n (pc' := 1292) dL_law_1291 rfl rfl ?_
        obtain ⟨h306, hf⟩ := chk_s hf
        obtain ⟨r308, M307, e308, hf⟩ := bnd_some hf
        refine g_callVi (pc' := 1295) (k' := (k + 2)) (u' := (u + 12)) (fr2 := 1) (As := []) (b := v2) (st := []) cf_X12_thrown q_463 (by omega) (ci := 12) rfl rfl (by decide) dL_law_1292 rfl rfl rfl (Nat.le_of_ble_eq_true rfl) (Or.inl rfl) (by show (k + 2) + 0 ≤ (k + 2); omega) (by show (u + 12) + 0 ≤ (u + 12); omega) (by show (k + 2) ≤ 601024; omega) (by show (u + 12) ≤ 7293034; omega) h306 (s_X12_thrown v2 M304 _ e308) ?_
        refine g_iload (pc' := 1297) dL_law_1295 rfl rfl ?_
        refine g_icmp_eq (pc' := 1300) 1302 dL_law_1297 rfl (by decide) (fun c309 => ?_) (fun c309 => ?_)
        · have hf := ite_t c309 hf
          refine g_iload (pc' := 1304) dL_law_1302 rfl rfl ?_
          refine g_if_ne (pc' := 1307) 1319 dL_law_1304 rfl (by decide) (fun c310 => ?_) (fun c310 => ?_)
          · have hf := ite_f c310 hf
            refine g_mask [true, true, true, true, true, false, false] rfl ?_
            refine g_widen (k' := (k + 2)) (u' := (u + 12)) (by omega) (by omega) ?_
            exact s_L_law_1319 L xs (f_L_law_23 L xs n) k u (by omega) (fun v1 v2 v3 v4 M r hf => ih (k + 3) (u + 1005) v1 v2 v3 v4 M r (by omega) hf) v1 v2 v3 v4 M307 _ hf
          · have hf := ite_t c310 hf
            refine g_aload_n (pc' := 1308) dL_law_1307 rfl rfl ?_
            refine g_iconst (pc' := 1309) (0 : Int32) dL_law_1308 rfl (by decide) ?_
            obtain ⟨h311, hf⟩ := chk_s hf
            obtain ⟨b312, hf⟩ := chk_s hf
            refine g_lald (pc' := 1310) dL_law_1309 rfl h311 (inB_in b312) ?_
            refine g_iload (pc' := 1312) dL_law_1310 rfl rfl ?_
            refine g_i2l (pc' := 1313) dL_law_1312 rfl ?_
            refine g_lcmp (pc' := 1314) dL_law_1313 rfl ?_
            refine g_if_eq (pc' := 1317) 1319 dL_law_1314 rfl (by decide) (fun c313 => ?_) (fun c313 => ?_)
            · have hf := ite_t c313 hf
              refine g_mask [true, true, true, true, true, false, false] rfl ?_
              refine g_widen (k' := (k + 2)) (u' := (u + 12)) (by omega) (by omega) ?_
              exact s_L_law_1319 L xs (f_L_law_23 L xs n) k u (by omega) (fun v1 v2 v3 v4 M r hf => ih (k + 3) (u + 1005) v1 v2 v3 v4 M r (by omega) hf) v1 v2 v3 v4 M307 _ hf
            · have hf := ite_f c313 hf
              refine g_iconst (pc' := 1318) (0 : Int32) dL_law_1317 rfl (by decide) ?_
              cases hf
              exact g_zreturn dL_law_1318 rfl (Or.inl rfl) (by show (k + 2) ≤ 601024; omega) (by show (u + 12) ≤ 7293034; omega)
        · have hf := ite_f c309 hf
          refine g_iconst (pc' := 1301) (0 : Int32) dL_law_1300 rfl (by decide) ?_
          cases hf
          exact g_zreturn dL_law_1301 rfl (Or.inl rfl) (by show (k + 2) ≤ 601024; omega) (by show (u + 12) ≤ 7293034; omega)
      have hf := ite_f c296 hf
      by_cases c314 : ((xs v4.toNatClampNeg) &&& (31 : Int32)) = (18 : Int32)
      · have hf := ite_t c314 hf
        refine g_tsw (pc' := 1322) (18 : Int32) dL_law_40 c314 (by decide) (by decide) rfl (by decide) ?_
        refine g_aload_n (pc' := 1323) dL_law_1322 rfl rfl ?_
        refine g_aload_n (pc' := 1324) dL_law_1323 rfl rfl ?_
        refine g_iload (pc' := 1326) dL_law_1324 rfl rfl ?_
        refine g_iconst (pc' := 1327) (1 : Int32) dL_law_1326 rfl (by decide) ?_
        refine g_iadd (pc' := 1328) dL_law_1327 rfl ?_
        obtain ⟨b315, hf⟩ := chk_s hf
        refine g_scrAt (pc' := 1329) rfl dL_law_1328 rfl (inB_in b315) ?_
        refine g_aload_n (pc' := 1330) dL_law_1329 rfl rfl ?_
        refine g_iload (pc' := 1332) dL_law_1330 rfl rfl ?_
        refine g_iconst (pc' := 1333) (2 : Int32) dL_law_1332 rfl (by decide) ?_
        refine g_iadd (pc' := 1334) dL_law_1333 rfl ?_
        obtain ⟨b316, hf⟩ := chk_s hf
        refine g_scrAt (pc' := 1335) rfl dL_law_1334 rfl (inB_in b316) ?_
        refine g_aload_n (pc' := 1336) dL_law_1335 rfl rfl ?_
        obtain ⟨r318, M317, e318, hf⟩ := bnd_some hf
        refine g_callSWi (pc' := 1339) (k' := (k + 2)) (u' := (u + 12)) (fr2 := 8) (As := [aR v1, aI (xs (v4 + (1 : Int32)).toNatClampNeg), aI (xs (v4 + (2 : Int32)).toNatClampNeg), aR v3]) (st := []) cf_L_fold q_1261 (by omega) dL_law_1336 rfl rfl rfl (Nat.le_of_ble_eq_true rfl) (Or.inl rfl) (by show k + 2 ≤ (k + 2); omega) (by show u + 12 ≤ (u + 12); omega) (by show (k + 2) ≤ 601024; omega) (by show (u + 12) ≤ 7293034; omega) (s_L_fold v1 (xs (v4 + (1 : Int32)).toNatClampNeg) (xs (v4 + (2 : Int32)).toNatClampNeg) v3 M _ e318) ?_
        refine g_istore (pc' := 1341) (lv' := [some (aR 4000000), some (aR v1), some (aR v2), some (aR v3), some (aI v4), some (aI r318), none]) dL_law_1339 rfl rfl (Nat.le_of_ble_eq_true rfl) rfl ?_
        refine g_aload_n (pc' := 1342) dL_law_1341 rfl rfl ?_
        refine g_aload_n (pc' := 1343) dL_law_1342 rfl rfl ?_
        refine g_iload (pc' := 1345) dL_law_1343 rfl rfl ?_
        refine g_iconst (pc' := 1346) (1 : Int32) dL_law_1345 rfl (by decide) ?_
        refine g_iadd (pc' := 1347) dL_law_1346 rfl ?_
        obtain ⟨b319, hf⟩ := chk_s hf
        refine g_scrAt (pc' := 1348) rfl dL_law_1347 rfl (inB_in b319) ?_
        refine g_aload_n (pc' := 1349) dL_law_1348 rfl rfl ?_
        refine g_iload (pc' := 1351) dL_law_1349 rfl rfl ?_
        refine g_iconst (pc' := 1352) (2 : Int32) dL_law_1351 rfl (by decide) ?_
        refine g_iadd (pc' := 1353) dL_law_1352 rfl ?_
        obtain ⟨b320, hf⟩ := chk_s hf
        refine g_scrAt (pc' := 1354) rfl dL_law_1353 rfl (inB_in b320) ?_
        obtain ⟨h321, hf⟩ := chk_s hf
        obtain ⟨r323, M322, e323, hf⟩ := bnd_some hf
        refine g_callVi (pc' := 1357) (k' := (k + 2)) (u' := (u + 12)) (fr2 := 5) (As := [aI (xs (v4 + (1 : Int32)).toNatClampNeg), aI (xs (v4 + (2 : Int32)).toNatClampNeg)]) (b := v2) (st := []) cf_X12_fold q_1301 (by omega) (ci := 12) rfl rfl (by decide) dL_law_1354 rfl rfl rfl (Nat.le_of_ble_eq_true rfl) (Or.inl rfl) (by show (k + 2) + 0 ≤ (k + 2); omega) (by show (u + 12) + 0 ≤ (u + 12); omega) (by show (k + 2) ≤ 601024; omega) (by show (u + 12) ≤ 7293034; omega) h321 (s_X12_fold v2 (xs (v4 + (1 : Int32)).toNatClampNeg) (xs (v4 + (2 : Int32)).toNatClampNeg) M317 _ e323) ?_
        refine g_istore (pc' := 1359) (lv' := [some (aR 4000000), some (aR v1), some (aR v2), some (aR v3), some (aI v4), some (aI r318), some (aI r323)]) dL_law_1357 rfl rfl (Nat.le_of_ble_eq_true rfl) rfl ?_
        refine g_aload_n (pc' := 1360) dL_law_1359 rfl rfl ?_
        obtain ⟨h324, hf⟩ := chk_s hf
        obtain ⟨r326, M325, e326, hf⟩ := bnd_some hf
        refine g_callVi (pc' := 1363) (k' := (k + 2)) (u' := (u + 12)) (fr2 := 1) (As := []) (b := v2) (st := []) cf_X12_thrown q_463 (by omega) (ci := 12) rfl rfl (by decide) dL_law_1360 rfl rfl rfl (Nat.le_of_ble_eq_true rfl) (Or.inl rfl) (by show (k + 2) + 0 ≤ (k + 2); omega) (by show (u + 12) + 0 ≤ (u + 12); omega) (by show (k + 2) ≤ 601024; omega) (by show (u + 12) ≤ 7293034; omega) h324 (s_X12_thrown v2 M322 _ e326) ?_
        refine g_iload (pc' := 1365) dL_law_1363 rfl rfl ?_
        refine g_icmp_eq (pc' := 1368) 1370 dL_law_1365 rfl (by decide) (fun c327 => ?_) (fun c327 => ?_)
        · have hf := ite_t c327 hf
          refine g_iload (pc' := 1372) dL_law_1370 rfl rfl ?_
          refine g_if_ne (pc' := 1375) 1387 dL_law_1372 rfl (by decide) (fun c328 => ?_) (fun c328 => ?_)
          · have hf := ite_f c328 hf
            refine g_mask [true, true, true, true, true, false, false] rfl ?_
            refine g_widen (k' := (k + 2)) (u' := (u + 12)) (by omega) (by omega) ?_
            exact s_L_law_1387 L xs (f_L_law_23 L xs n) k u (by omega) (fun v1 v2 v3 v4 M r hf => ih (k + 3) (u + 1005) v1 v2 v3 v4 M r (by omega) hf) v1 v2 v3 v4 M325 _ hf
          · have hf := ite_t c328 hf
            refine g_aload_n (pc' := 1376) dL_law_1375 rfl rfl ?_
            refine g_iconst (pc' := 1377) (0 : Int32) dL_law_1376 rfl (by decide) ?_
            obtain ⟨h329, hf⟩ := chk_s hf
            obtain ⟨b330, hf⟩ := chk_s hf
            refine g_lald (pc' := 1378) dL_law_1377 rfl h329 (inB_in b330) ?_
            refine g_iload (pc' := 1380) dL_law_1378 rfl rfl ?_
            refine g_i2l (pc' := 1381) dL_law_1380 rfl ?_
            refine g_lcmp (pc' := 1382) dL_law_1381 rfl ?_
            refine g_if_eq (pc' := 1385) 1387 dL_law_1382 rfl (by decide) (fun c331 => ?_) (fun c331 => ?_)
            · have hf := ite_t c331 hf
              refine g_mask [true, true, true, true, true, false, false] rfl ?_
              refine g_widen (k' := (k + 2)) (u' := (u + 12)) (by omega) (by omega) ?_
              exact s_L_law_1387 L xs (f_L_law_23 L xs n) k u (by omega) (fun v1 v2 v3 v4 M r hf => ih (k + 3) (u + 1005) v1 v2 v3 v4 M r (by omega) hf) v1 v2 v3 v4 M325 _ hf
            · have hf := ite_f c331 hf
              refine g_iconst (pc' := 1386) (0 : Int32) dL_law_1385 rfl (by decide) ?_
              cases hf
              exact g_zreturn dL_law_1386 rfl (Or.inl rfl) (by show (k + 2) ≤ 601024; omega) (by show (u + 12) ≤ 7293034; omega)
        · have hf := ite_f c327 hf
          refine g_iconst (pc' := 1369) (0 : Int32) dL_law_1368 rfl (by decide) ?_
          cases hf
          exact g_zreturn dL_law_1369 rfl (Or.inl rfl) (by show (k + 2) ≤ 601024; omega) (by show (u + 12) ≤ 7293034; omega)
      have hf := ite_f c314 hf
      by_cases c332 : ((xs v4.toNatClampNeg) &&& (31 : Int32)) = (19 : Int32)
      · have hf := ite_t c332 hf
        refine g_tsw (pc' := 1390) (19 : Int32) dL_law_40 c332 (by decide) (by decide) rfl (by decide) ?_
        refine g_aload_n (pc' := 1391) dL_law_1390 rfl rfl ?_
        refine g_aload_n (pc' := 1392) dL_law_1391 rfl rfl ?_
        refine g_iload (pc' := 1394) dL_law_1392 rfl rfl ?_
        refine g_iconst (pc' := 1395) (1 : Int32) dL_law_1394 rfl (by decide) ?_
        refine g_iadd (pc' := 1396) dL_law_1395 rfl ?_
        obtain ⟨b333, hf⟩ := chk_s hf
        refine g_scrAt (pc' := 1397) rfl dL_law_1396 rfl (inB_in b333) ?_
        refine g_aload_n (pc' := 1398) dL_law_1397 rfl rfl ?_
        refine g_iload (pc' := 1400) dL_law_1398 rfl rfl ?_
        refine g_iconst (pc' := 1401) (2 : Int32) dL_law_1400 rfl (by decide) ?_
        refine g_iadd (pc' := 1402) dL_law_1401 rfl ?_
        obtain ⟨b334, hf⟩ := chk_s hf
        refine g_scrAt (pc' := 1403) rfl dL_law_1402 rfl (inB_in b334) ?_
        refine g_aload_n (pc' := 1404) dL_law_1403 rfl rfl ?_
        refine g_iload (pc' := 1406) dL_law_1404 rfl rfl ?_
        refine g_iconst (pc' := 1407) (3 : Int32) dL_law_1406 rfl (by decide) ?_
        refine g_iadd (pc' := 1408) dL_law_1407 rfl ?_
        obtain ⟨b335, hf⟩ := chk_s hf
        refine g_scrAt (pc' := 1409) rfl dL_law_1408 rfl (inB_in b335) ?_
        refine g_aload_n (pc' := 1410) dL_law_1409 rfl rfl ?_
        obtain ⟨r337, M336, e337, hf⟩ := bnd_some hf
        refine g_callSWi (pc' := 1413) (k' := (k + 2)) (u' := (u + 12)) (fr2 := 8) (As := [aR v1, aI (xs (v4 + (1 : Int32)).toNatClampNeg), aI (xs (v4 + (2 : Int32)).toNatClampNeg), aI (xs (v4 + (3 : Int32)).toNatClampNeg), aR v3]) (st := []) cf_L_picked q_1314 (by omega) dL_law_1410 rfl rfl rfl (Nat.le_of_ble_eq_true rfl) (Or.inl rfl) (by show k + 2 ≤ (k + 2); omega) (by show u + 12 ≤ (u + 12); omega) (by show (k + 2) ≤ 601024; omega) (by show (u + 12) ≤ 7293034; omega) (s_L_picked v1 (xs (v4 + (1 : Int32)).toNatClampNeg) (xs (v4 + (2 : Int32)).toNatClampNeg) (xs (v4 + (3 : Int32)).toNatClampNeg) v3 M _ e337) ?_
        refine g_istore (pc' := 1415) (lv' := [some (aR 4000000), some (aR v1), some (aR v2), some (aR v3), some (aI v4), some (aI r337), none]) dL_law_1413 rfl rfl (Nat.le_of_ble_eq_true rfl) rfl ?_
        refine g_aload_n (pc' := 1416) dL_law_1415 rfl rfl ?_
        refine g_aload_n (pc' := 1417) dL_law_1416 rfl rfl ?_
        refine g_iload (pc' := 1419) dL_law_1417 rfl rfl ?_
        refine g_iconst (pc' := 1420) (1 : Int32) dL_law_1419 rfl (by decide) ?_
        refine g_iadd (pc' := 1421) dL_law_1420 rfl ?_
        obtain ⟨b338, hf⟩ := chk_s hf
        refine g_scrAt (pc' := 1422) rfl dL_law_1421 rfl (inB_in b338) ?_
        refine g_aload_n (pc' := 1423) dL_law_1422 rfl rfl ?_
        refine g_iload (pc' := 1425) dL_law_1423 rfl rfl ?_
        refine g_iconst (pc' := 1426) (2 : Int32) dL_law_1425 rfl (by decide) ?_
        refine g_iadd (pc' := 1427) dL_law_1426 rfl ?_
        obtain ⟨b339, hf⟩ := chk_s hf
        refine g_scrAt (pc' := 1428) rfl dL_law_1427 rfl (inB_in b339) ?_
        refine g_aload_n (pc' := 1429) dL_law_1428 rfl rfl ?_
        refine g_iload (pc' := 1431) dL_law_1429 rfl rfl ?_
        refine g_iconst (pc' := 1432) (3 : Int32) dL_law_1431 rfl (by decide) ?_
        refine g_iadd (pc' := 1433) dL_law_1432 rfl ?_
        obtain ⟨b340, hf⟩ := chk_s hf
        refine g_scrAt (pc' := 1434) rfl dL_law_1433 rfl (inB_in b340) ?_
        obtain ⟨h341, hf⟩ := chk_s hf
        obtain ⟨r343, M342, e343, hf⟩ := bnd_some hf
        refine g_callVi (pc' := 1437) (k' := (k + 2)) (u' := (u + 12)) (fr2 := 4) (As := [aI (xs (v4 + (1 : Int32)).toNatClampNeg), aI (xs (v4 + (2 : Int32)).toNatClampNeg), aI (xs (v4 + (3 : Int32)).toNatClampNeg)]) (b := v2) (st := []) cf_X12_picked q_1325 (by omega) (ci := 12) rfl rfl (by decide) dL_law_1434 rfl rfl rfl (Nat.le_of_ble_eq_true rfl) (Or.inl rfl) (by show (k + 2) + 0 ≤ (k + 2); omega) (by show (u + 12) + 0 ≤ (u + 12); omega) (by show (k + 2) ≤ 601024; omega) (by show (u + 12) ≤ 7293034; omega) h341 (s_X12_picked v2 (xs (v4 + (1 : Int32)).toNatClampNeg) (xs (v4 + (2 : Int32)).toNatClampNeg) (xs (v4 + (3 : Int32)).toNatClampNeg) M336 _ e343) ?_
        refine g_istore (pc' := 1439) (lv' := [some (aR 4000000), some (aR v1), some (aR v2), some (aR v3), some (aI v4), some (aI r337), some (aI r343)]) dL_law_1437 rfl rfl (Nat.le_of_ble_eq_true rfl) rfl ?_
        refine g_aload_n (pc' := 1440) dL_law_1439 rfl rfl ?_
        obtain ⟨h344, hf⟩ := chk_s hf
        obtain ⟨r346, M345, e346, hf⟩ := bnd_some hf
        refine g_callVi (pc' := 1443) (k' := (k + 2)) (u' := (u + 12)) (fr2 := 1) (As := []) (b := v2) (st := []) cf_X12_thrown q_463 (by omega) (ci := 12) rfl rfl (by decide) dL_law_1440 rfl rfl rfl (Nat.le_of_ble_eq_true rfl) (Or.inl rfl) (by show (k + 2) + 0 ≤ (k + 2); omega) (by show (u + 12) + 0 ≤ (u + 12); omega) (by show (k + 2) ≤ 601024; omega) (by show (u + 12) ≤ 7293034; omega) h344 (s_X12_thrown v2 M342 _ e346) ?_
        refine g_iload (pc' := 1445) dL_law_1443 rfl rfl ?_
        refine g_icmp_eq (pc' := 1448) 1450 dL_law_1445 rfl (by decide) (fun c347 => ?_) (fun c347 => ?_)
        · have hf := ite_t c347 hf
          refine g_iload (pc' := 1452) dL_law_1450 rfl rfl ?_
          refine g_if_ne (pc' := 1455) 1467 dL_law_1452 rfl (by decide) (fun c348 => ?_) (fun c348 => ?_)
          · have hf := ite_f c348 hf
            refine g_mask [true, true, true, true, true, false, false] rfl ?_
            refine g_widen (k' := (k + 2)) (u' := (u + 12)) (by omega) (by omega) ?_
            exact s_L_law_1467 L xs (f_L_law_23 L xs n) k u (by omega) (fun v1 v2 v3 v4 M r hf => ih (k + 3) (u + 1005) v1 v2 v3 v4 M r (by omega) hf) v1 v2 v3 v4 M345 _ hf
          · have hf := ite_t c348 hf
            refine g_aload_n (pc' := 1456) dL_law_1455 rfl rfl ?_
            refine g_iconst (pc' := 1457) (0 : Int32) dL_law_1456 rfl (by decide) ?_
            obtain ⟨h349, hf⟩ := chk_s hf
            obtain ⟨b350, hf⟩ := chk_s hf
            refine g_lald (pc' := 1458) dL_law_1457 rfl h349 (inB_in b350) ?_
            refine g_iload (pc' := 1460) dL_law_1458 rfl rfl ?_
            refine g_i2l (pc' := 1461) dL_law_1460 rfl ?_
            refine g_lcmp (pc' := 1462) dL_law_1461 rfl ?_
            refine g_if_eq (pc' := 1465) 1467 dL_law_1462 rfl (by decide) (fun c351 => ?_) (fun c351 => ?_)
            · have hf := ite_t c351 hf
              refine g_mask [true, true, true, true, true, false, false] rfl ?_
              refine g_widen (k' := (k + 2)) (u' := (u + 12)) (by omega) (by omega) ?_
              exact s_L_law_1467 L xs (f_L_law_23 L xs n) k u (by omega) (fun v1 v2 v3 v4 M r hf => ih (k + 3) (u + 1005) v1 v2 v3 v4 M r (by omega) hf) v1 v2 v3 v4 M345 _ hf
            · have hf := ite_f c351 hf
              refine g_iconst (pc' := 1466) (0 : Int32) dL_law_1465 rfl (by decide) ?_
              cases hf
              exact g_zreturn dL_law_1466 rfl (Or.inl rfl) (by show (k + 2) ≤ 601024; omega) (by show (u + 12) ≤ 7293034; omega)
        · have hf := ite_f c347 hf
          refine g_iconst (pc' := 1449) (0 : Int32) dL_law_1448 rfl (by decide) ?_
          cases hf
          exact g_zreturn dL_law_1449 rfl (Or.inl rfl) (by show (k + 2) ≤ 601024; omega) (by show (u + 12) ≤ 7293034; omega)
      have hf := ite_f c332 hf
      by_cases c352 : ((xs v4.toNatClampNeg) &&& (31 : Int32)) = (20 : Int32)
      · have hf := ite_t c352 hf
        refine g_tsw (pc' := 1470) (20 : Int32) dL_law_40 c352 (by decide) (by decide) rfl (by decide) ?_
        refine g_aload_n (pc' := 1471) dL_law_1470 rfl rfl ?_
        refine g_aload_n (pc' := 1472) dL_law_1471 rfl rfl ?_
        refine g_iload (pc' := 1474) dL_law_1472 rfl rfl ?_
        refine g_iconst (pc' := 1475) (1 : Int32) dL_law_1474 rfl (by decide) ?_
        refine g_iadd (pc' := 1476) dL_law_1475 rfl ?_
        obtain ⟨b353, hf⟩ := chk_s hf
        refine g_scrAt (pc' := 1477) rfl dL_law_1476 rfl (inB_in b353) ?_
        refine g_aload_n (pc' := 1478) dL_law_1477 rfl rfl ?_
        refine g_iload (pc' := 1480) dL_law_1478 rfl rfl ?_
        refine g_iconst (pc' := 1481) (2 : Int32) dL_law_1480 rfl (by decide) ?_
        refine g_iadd (pc' := 1482) dL_law_1481 rfl ?_
        obtain ⟨b354, hf⟩ := chk_s hf
        refine g_scrAt (pc' := 1483) rfl dL_law_1482 rfl (inB_in b354) ?_
        refine g_aload_n (pc' := 1484) dL_law_1483 rfl rfl ?_
        obtain ⟨r356, M355, e356, hf⟩ := bnd_some hf
        refine g_callSWi (pc' := 1487) (k' := (k + 2)) (u' := (u + 12)) (fr2 := 8) (As := [aR v1, aI (xs (v4 + (1 : Int32)).toNatClampNeg), aI (xs (v4 + (2 : Int32)).toNatClampNeg), aR v3]) (st := []) cf_L_pages q_1330 (by omega) dL_law_1484 rfl rfl rfl (Nat.le_of_ble_eq_true rfl) (Or.inl rfl) (by show k + 2 ≤ (k + 2); omega) (by show u + 12 ≤ (u + 12); omega) (by show (k + 2) ≤ 601024; omega) (by show (u + 12) ≤ 7293034; omega) (s_L_pages v1 (xs (v4 + (1 : Int32)).toNatClampNeg) (xs (v4 + (2 : Int32)).toNatClampNeg) v3 M _ e356) ?_
        refine g_istore (pc' := 1489) (lv' := [some (aR 4000000), some (aR v1), some (aR v2), some (aR v3), some (aI v4), some (aI r356), none]) dL_law_1487 rfl rfl (Nat.le_of_ble_eq_true rfl) rfl ?_
        refine g_aload_n (pc' := 1490) dL_law_1489 rfl rfl ?_
        refine g_aload_n (pc' := 1491) dL_law_1490 rfl rfl ?_
        refine g_iload (pc' := 1493) dL_law_1491 rfl rfl ?_
        refine g_iconst (pc' := 1494) (1 : Int32) dL_law_1493 rfl (by decide) ?_
        refine g_iadd (pc' := 1495) dL_law_1494 rfl ?_
        obtain ⟨b357, hf⟩ := chk_s hf
        refine g_scrAt (pc' := 1496) rfl dL_law_1495 rfl (inB_in b357) ?_
        refine g_aload_n (pc' := 1497) dL_law_1496 rfl rfl ?_
        refine g_iload (pc' := 1499) dL_law_1497 rfl rfl ?_
        refine g_iconst (pc' := 1500) (2 : Int32) dL_law_1499 rfl (by decide) ?_
        refine g_iadd (pc' := 1501) dL_law_1500 rfl ?_
        obtain ⟨b358, hf⟩ := chk_s hf
        refine g_scrAt (pc' := 1502) rfl dL_law_1501 rfl (inB_in b358) ?_
        obtain ⟨h359, hf⟩ := chk_s hf
        obtain ⟨r361, M360, e361, hf⟩ := bnd_some hf
        refine g_callVi (pc' := 1505) (k' := (k + 2)) (u' := (u + 12)) (fr2 := 4) (As := [aI (xs (v4 + (1 : Int32)).toNatClampNeg), aI (xs (v4 + (2 : Int32)).toNatClampNeg)]) (b := v2) (st := []) cf_X12_pages q_1342 (by omega) (ci := 12) rfl rfl (by decide) dL_law_1502 rfl rfl rfl (Nat.le_of_ble_eq_true rfl) (Or.inl rfl) (by show (k + 2) + 0 ≤ (k + 2); omega) (by show (u + 12) + 0 ≤ (u + 12); omega) (by show (k + 2) ≤ 601024; omega) (by show (u + 12) ≤ 7293034; omega) h359 (s_X12_pages v2 (xs (v4 + (1 : Int32)).toNatClampNeg) (xs (v4 + (2 : Int32)).toNatClampNeg) M355 _ e361) ?_
        refine g_istore (pc' := 1507) (lv' := [some (aR 4000000), some (aR v1), some (aR v2), some (aR v3), some (aI v4), some (aI r356), some (aI r361)]) dL_law_1505 rfl rfl (Nat.le_of_ble_eq_true rfl) rfl ?_
        refine g_aload_n (pc' := 1508) dL_law_1507 rfl rfl ?_
        obtain ⟨h362, hf⟩ := chk_s hf
        obtain ⟨r364, M363, e364, hf⟩ := bnd_some hf
        refine g_callVi (pc' := 1511) (k' := (k + 2)) (u' := (u + 12)) (fr2 := 1) (As := []) (b := v2) (st := []) cf_X12_thrown q_463 (by omega) (ci := 12) rfl rfl (by decide) dL_law_1508 rfl rfl rfl (Nat.le_of_ble_eq_true rfl) (Or.inl rfl) (by show (k + 2) + 0 ≤ (k + 2); omega) (by show (u + 12) + 0 ≤ (u + 12); omega) (by show (k + 2) ≤ 601024; omega) (by show (u + 12) ≤ 7293034; omega) h362 (s_X12_thrown v2 M360 _ e364) ?_
        refine g_iload (pc' := 1513) dL_law_1511 rfl rfl ?_
        refine g_icmp_eq (pc' := 1516) 1518 dL_law_1513 rfl (by decide) (fun c365 => ?_) (fun c365 => ?_)
        · have hf := ite_t c365 hf
          refine g_iload (pc' := 1520) dL_law_1518 rfl rfl ?_
          refine g_if_ne (pc' := 1523) 1535 dL_law_1520 rfl (by decide) (fun c366 => ?_) (fun c366 => ?_)
          · have hf := ite_f c366 hf
            refine g_mask [true, true, true, true, true, false, false] rfl ?_
            refine g_widen (k' := (k + 2)) (u' := (u + 12)) (by omega) (by omega) ?_
            exact s_L_law_1535 L xs (f_L_law_23 L xs n) k u (by omega) (fun v1 v2 v3 v4 M r hf => ih (k + 3) (u + 1005) v1 v2 v3 v4 M r (by omega) hf) v1 v2 v3 v4 M363 _ hf
          · have hf := ite_t c366 hf
            refine g_aload_n (pc' := 1524) dL_law_1523 rfl rfl ?_
            refine g_iconst (pc' := 1525) (0 : Int32) dL_law_1524 rfl (by decide) ?_
            obtain ⟨h367, hf⟩ := chk_s hf
            obtain ⟨b368, hf⟩ := chk_s hf
            refine g_lald (pc' := 1526) dL_law_1525 rfl h367 (inB_in b368) ?_
            refine g_iload (pc' := 1528) dL_law_1526 rfl rfl ?_
            refine g_i2l (pc' := 1529) dL_law_1528 rfl ?_
            refine g_lcmp (pc' := 1530) dL_law_1529 rfl ?_
            refine g_if_eq (pc' := 1533) 1535 dL_law_1530 rfl (by decide) (fun c369 => ?_) (fun c369 => ?_)
            · have hf := ite_t c369 hf
              refine g_mask [true, true, true, true, true, false, false] rfl ?_
              refine g_widen (k' := (k + 2)) (u' := (u + 12)) (by omega) (by omega) ?_
              exact s_L_law_1535 L xs (f_L_law_23 L xs n) k u (by omega) (fun v1 v2 v3 v4 M r hf => ih (k + 3) (u + 1005) v1 v2 v3 v4 M r (by omega) hf) v1 v2 v3 v4 M363 _ hf
            · have hf := ite_f c369 hf
              refine g_iconst (pc' := 1534) (0 : Int32) dL_law_1533 rfl (by decide) ?_
              cases hf
              exact g_zreturn dL_law_1534 rfl (Or.inl rfl) (by show (k + 2) ≤ 601024; omega) (by show (u + 12) ≤ 7293034; omega)
        · have hf := ite_f c365 hf
          refine g_iconst (pc' := 1517) (0 : Int32) dL_law_1516 rfl (by decide) ?_
          cases hf
          exact g_zreturn dL_law_1517 rfl (Or.inl rfl) (by show (k + 2) ≤ 601024; omega) (by show (u + 12) ≤ 7293034; omega)
      have hf := ite_f c352 hf
      by_cases c370 : ((xs v4.toNatClampNeg) &&& (31 : Int32)) = (21 : Int32)
      · have hf := ite_t c370 hf
        refine g_tsw (pc' := 1538) (21 : Int32) dL_law_40 c370 (by decide) (by decide) rfl (by decide) ?_
        refine g_aload_n (pc' := 1539) dL_law_1538 rfl rfl ?_
        refine g_aload_n (pc' := 1540) dL_law_1539 rfl rfl ?_
        refine g_iload (pc' := 1542) dL_law_1540 rfl rfl ?_
        refine g_iconst (pc' := 1543) (1 : Int32) dL_law_1542 rfl (by decide) ?_
        refine g_iadd (pc' := 1544) dL_law_1543 rfl ?_
        obtain ⟨b371, hf⟩ := chk_s hf
        refine g_scrAt (pc' := 1545) rfl dL_law_1544 rfl (inB_in b371) ?_
        refine g_aload_n (pc' := 1546) dL_law_1545 rfl rfl ?_
        refine g_iload (pc' := 1548) dL_law_1546 rfl rfl ?_
        refine g_iconst (pc' := 1549) (2 : Int32) dL_law_1548 rfl (by decide) ?_
        refine g_iadd (pc' := 1550) dL_law_1549 rfl ?_
        obtain ⟨b372, hf⟩ := chk_s hf
        refine g_scrAt (pc' := 1551) rfl dL_law_1550 rfl (inB_in b372) ?_
        refine g_aload_n (pc' := 1552) dL_law_1551 rfl rfl ?_
        obtain ⟨r374, M373, e374, hf⟩ := bnd_some hf
        refine g_callSWi (pc' := 1555) (k' := (k + 2)) (u' := (u + 12)) (fr2 := 8) (As := [aR v1, aI (xs (v4 + (1 : Int32)).toNatClampNeg), aI (xs (v4 + (2 : Int32)).toNatClampNeg), aR v3]) (st := []) cf_L_piped q_1347 (by omega) dL_law_1552 rfl rfl rfl (Nat.le_of_ble_eq_true rfl) (Or.inl rfl) (by show k + 2 ≤ (k + 2); omega) (by show u + 12 ≤ (u + 12); omega) (by show (k + 2) ≤ 601024; omega) (by show (u + 12) ≤ 7293034; omega) (s_L_piped v1 (xs (v4 + (1 : Int32)).toNatClampNeg) (xs (v4 + (2 : Int32)).toNatClampNeg) v3 M _ e374) ?_
        refine g_istore (pc' := 1557) (lv' := [some (aR 4000000), some (aR v1), some (aR v2), some (aR v3), some (aI v4), some (aI r374), none]) dL_law_1555 rfl rfl (Nat.le_of_ble_eq_true rfl) rfl ?_
        refine g_aload_n (pc' := 1558) dL_law_1557 rfl rfl ?_
        refine g_aload_n (pc' := 1559) dL_law_1558 rfl rfl ?_
        refine g_iload (pc' := 1561) dL_law_1559 rfl rfl ?_
        refine g_iconst (pc' := 1562) (1 : Int32) dL_law_1561 rfl (by decide) ?_
        refine g_iadd (pc' := 1563) dL_law_1562 rfl ?_
        obtain ⟨b375, hf⟩ := chk_s hf
        refine g_scrAt (pc' := 1564) rfl dL_law_1563 rfl (inB_in b375) ?_
        refine g_aload_n (pc' := 1565) dL_law_1564 rfl rfl ?_
        refine g_iload (pc' := 1567) dL_law_1565 rfl rfl ?_
        refine g_iconst (pc' := 1568) (2 : Int32) dL_law_1567 rfl (by decide) ?_
        refine g_iadd (pc' := 1569) dL_law_1568 rfl ?_
        obtain ⟨b376, hf⟩ := chk_s hf
        refine g_scrAt (pc' := 1570) rfl dL_law_1569 rfl (inB_in b376) ?_
        obtain ⟨h377, hf⟩ := chk_s hf
        obtain ⟨r379, M378, e379, hf⟩ := bnd_some hf
        refine g_callVi (pc' := 1573) (k' := (k + 2)) (u' := (u + 12)) (fr2 := 3) (As := [aI (xs (v4 + (1 : Int32)).toNatClampNeg), aI (xs (v4 + (2 : Int32)).toNatClampNeg)]) (b := v2) (st := []) cf_X12_piped q_1375 (by omega) (ci := 12) rfl rfl (by decide) dL_law_1570 rfl rfl rfl (Nat.le_of_ble_eq_true rfl) (Or.inl rfl) (by show (k + 2) + 0 ≤ (k + 2); omega) (by show (u + 12) + 0 ≤ (u + 12); omega) (by show (k + 2) ≤ 601024; omega) (by show (u + 12) ≤ 7293034; omega) h377 (s_X12_piped v2 (xs (v4 + (1 : Int32)).toNatClampNeg) (xs (v4 + (2 : Int32)).toNatClampNeg) M373 _ e379) ?_
        refine g_istore (pc' := 1575) (lv' := [some (aR 4000000), some (aR v1), some (aR v2), some (aR v3), some (aI v4), some (aI r374), some (aI r379)]) dL_law_1573 rfl rfl (Nat.le_of_ble_eq_true rfl) rfl ?_
        refine g_aload_n (pc' := 1576) dL_law_1575 rfl rfl ?_
        obtain ⟨h380, hf⟩ := chk_s hf
        obtain ⟨r382, M381, e382, hf⟩ := bnd_some hf
        refine g_callVi (pc' := 1579) (k' := (k + 2)) (u' := (u + 12)) (fr2 := 1) (As := []) (b := v2) (st := []) cf_X12_thrown q_463 (by omega) (ci := 12) rfl rfl (by decide) dL_law_1576 rfl rfl rfl (Nat.le_of_ble_eq_true rfl) (Or.inl rfl) (by show (k + 2) + 0 ≤ (k + 2); omega) (by show (u + 12) + 0 ≤ (u + 12); omega) (by show (k + 2) ≤ 601024; omega) (by show (u + 12) ≤ 7293034; omega) h380 (s_X12_thrown v2 M378 _ e382) ?_
        refine g_iload (pc' := 1581) dL_law_1579 rfl rfl ?_
        refine g_icmp_eq (pc' := 1584) 1586 dL_law_1581 rfl (by decide) (fun c383 => ?_) (fun c383 => ?_)
        · have hf := ite_t c383 hf
          refine g_iload (pc' := 1588) dL_law_1586 rfl rfl ?_
          refine g_if_ne (pc' := 1591) 1603 dL_law_1588 rfl (by decide) (fun c384 => ?_) (fun c384 => ?_)
          · have hf := ite_f c384 hf
            refine g_mask [true, true, true, true, true, false, false] rfl ?_
            refine g_widen (k' := (k + 2)) (u' := (u + 12)) (by omega) (by omega) ?_
            exact s_L_law_1603 L xs (f_L_law_23 L xs n) k u (by omega) (fun v1 v2 v3 v4 M r hf => ih (k + 3) (u + 1005) v1 v2 v3 v4 M r (by omega) hf) v1 v2 v3 v4 M381 _ hf
          · have hf := ite_t c384 hf
            refine g_aload_n (pc' := 1592) dL_law_1591 rfl rfl ?_
            refine g_iconst (pc' := 1593) (0 : Int32) dL_law_1592 rfl (by decide) ?_
            obtain ⟨h385, hf⟩ := chk_s hf
            obtain ⟨b386, hf⟩ := chk_s hf
            refine g_lald (pc' := 1594) dL_law_1593 rfl h385 (inB_in b386) ?_
            refine g_iload (pc' := 1596) dL_law_1594 rfl rfl ?_
            refine g_i2l (pc' := 1597) dL_law_1596 rfl ?_
            refine g_lcmp (pc' := 1598) dL_law_1597 rfl ?_
            refine g_if_eq (pc' := 1601) 1603 dL_law_1598 rfl (by decide) (fun c387 => ?_) (fun c387 => ?_)
            · have hf := ite_t c387 hf
              refine g_mask [true, true, true, true, true, false, false] rfl ?_
              refine g_widen (k' := (k + 2)) (u' := (u + 12)) (by omega) (by omega) ?_
              exact s_L_law_1603 L xs (f_L_law_23 L xs n) k u (by omega) (fun v1 v2 v3 v4 M r hf => ih (k + 3) (u + 1005) v1 v2 v3 v4 M r (by omega) hf) v1 v2 v3 v4 M381 _ hf
            · have hf := ite_f c387 hf
              refine g_iconst (pc' := 1602) (0 : Int32) dL_law_1601 rfl (by decide) ?_
              cases hf
              exact g_zreturn dL_law_1602 rfl (Or.inl rfl) (by show (k + 2) ≤ 601024; omega) (by show (u + 12) ≤ 7293034; omega)
        · have hf := ite_f c383 hf
          refine g_iconst (pc' := 1585) (0 : Int32) dL_law_1584 rfl (by decide) ?_
          cases hf
          exact g_zreturn dL_law_1585 rfl (Or.inl rfl) (by show (k + 2) ≤ 601024; omega) (by show (u + 12) ≤ 7293034; omega)
      have hf := ite_f c370 hf
      by_cases c388 : ((xs v4.toNatClampNeg) &&& (31 : Int32)) = (22 : Int32)
      · have hf := ite_t c388 hf
        refine g_tsw (pc' := 1606) (22 : Int32) dL_law_40 c388 (by decide) (by decide) rfl (by decide) ?_
        refine g_aload_n (pc' := 1607) dL_law_1606 rfl rfl ?_
        obtain ⟨h389, hf⟩ := chk_s hf
        obtain ⟨ha392, hf⟩ := chk_s hf
        obtain ⟨r391, M390, e391, hf⟩ := bnd_some hf
        refine g_callVi (pc' := 1610) (k' := (k + 2)) (u' := (u + 1005)) (fr2 := 7) (As := []) (b := v1) (st := []) cf_X11_drop q_1384 (by omega) (ci := 11) rfl rfl (by decide) dL_law_1607 rfl rfl rfl (Nat.le_of_ble_eq_true rfl) (Or.inr ⟨Nat.one_ne_zero, okrB_ok ha392 rfl⟩) (by show k + 2 ≤ (k + 2); omega) (by show u + 1005 ≤ (u + 1005); omega) (by show (k + 2) ≤ 601024; omega) (by show (u + 1005) ≤ 7293034; omega) h389 (s_X11_drop v1 M _ e391) ?_
        refine g_aload_n (pc' := 1611) dL_law_1610 rfl rfl ?_
        obtain ⟨h393, hf⟩ := chk_s hf
        obtain ⟨r395, M394, e395, hf⟩ := bnd_some hf
        refine g_callVi (pc' := 1614) (k' := (k + 2)) (u' := (u + 1005)) (fr2 := 5) (As := []) (b := v2) (st := [aI r391]) cf_X12_drop q_1408 (by omega) (ci := 12) rfl rfl (by decide) dL_law_1611 rfl rfl rfl (Nat.le_of_ble_eq_true rfl) (Or.inl rfl) (by show (k + 2) + 0 ≤ (k + 2); omega) (by show (u + 1005) + 0 ≤ (u + 1005); omega) (by show (k + 2) ≤ 601024; omega) (by show (u + 1005) ≤ 7293034; omega) h393 (s_X12_drop v2 M390 _ e395) ?_
        refine g_icmp_eq (pc' := 1617) 1908 dL_law_1614 rfl (by decide) (fun c396 => ?_) (fun c396 => ?_)
        · have hf := ite_t c396 hf
          refine g_widen (k' := (k + 3)) (u' := (u + 1005)) (by omega) (by omega) ?_
          exact s_L_law_1908 L xs (f_L_law_23 L xs n) k u (by omega) (fun v1 v2 v3 v4 M r hf => ih (k + 3) (u + 1005) v1 v2 v3 v4 M r (by omega) hf) v1 v2 v3 v4 M394 _ hf
        · have hf := ite_f c396 hf
          refine g_iconst (pc' := 1618) (0 : Int32) dL_law_1617 rfl (by decide) ?_
          cases hf
          exact g_zreturn dL_law_1618 rfl (Or.inl rfl) (by show (k + 2) ≤ 601024; omega) (by show (u + 1005) ≤ 7293034; omega)
      have hf := ite_f c388 hf
      by_cases c397 : ((xs v4.toNatClampNeg) &&& (31 : Int32)) = (23 : Int32)
      · have hf := ite_t c397 hf
        refine g_tsw (pc' := 1619) (23 : Int32) dL_law_40 c397 (by decide) (by decide) rfl (by decide) ?_
        refine g_aload_n (pc' := 1620) dL_law_1619 rfl rfl ?_
        refine g_aload_n (pc' := 1621) dL_law_1620 rfl rfl ?_
        refine g_iload (pc' := 1623) dL_law_1621 rfl rfl ?_
        refine g_iconst (pc' := 1624) (1 : Int32) dL_law_1623 rfl (by decide) ?_
        refine g_iadd (pc' := 1625) dL_law_1624 rfl ?_
        obtain ⟨b398, hf⟩ := chk_s hf
        refine g_scrAt (pc' := 1626) rfl dL_law_1625 rfl (inB_in b398) ?_
        refine g_aload_n (pc' := 1627) dL_law_1626 rfl rfl ?_
        refine g_iload (pc' := 1629) dL_law_1627 rfl rfl ?_
        refine g_iconst (pc' := 1630) (2 : Int32) dL_law_1629 rfl (by decide) ?_
        refine g_iadd (pc' := 1631) dL_law_1630 rfl ?_
        obtain ⟨b399, hf⟩ := chk_s hf
        refine g_scrAt (pc' := 1632) rfl dL_law_1631 rfl (inB_in b399) ?_
        refine g_aload_n (pc' := 1633) dL_law_1632 rfl rfl ?_
        refine g_iload (pc' := 1635) dL_law_1633 rfl rfl ?_
        refine g_iconst (pc' := 1636) (3 : Int32) dL_law_1635 rfl (by decide) ?_
        refine g_iadd (pc' := 1637) dL_law_1636 rfl ?_
        obtain ⟨b400, hf⟩ := chk_s hf
        refine g_scrAt (pc' := 1638) rfl dL_law_1637 rfl (inB_in b400) ?_
        refine g_aload_n (pc' := 1639) dL_law_1638 rfl rfl ?_
        obtain ⟨ha403, hf⟩ := chk_s hf
        obtain ⟨r402, M401, e402, hf⟩ := bnd_some hf
        refine g_callSWi (pc' := 1642) (k' := (k + 3)) (u' := (u + 17)) (fr2 := 9) (As := [aR v1, aI (xs (v4 + (1 : Int32)).toNatClampNeg), aI (xs (v4 + (2 : Int32)).toNatClampNeg), aI (xs (v4 + (3 : Int32)).toNatClampNeg), aR v3]) (st := []) cf_L_set q_1416 (by omega) dL_law_1639 rfl rfl rfl (Nat.le_of_ble_eq_true rfl) (Or.inr ⟨Nat.one_ne_zero, okrB_ok ha403 rfl⟩) (by show k + 3 ≤ (k + 3); omega) (by show u + 17 ≤ (u + 17); omega) (by show (k + 3) ≤ 601024; omega) (by show (u + 17) ≤ 7293034; omega) (s_L_set v1 (xs (v4 + (1 : Int32)).toNatClampNeg) (xs (v4 + (2 : Int32)).toNatClampNeg) (xs (v4 + (3 : Int32)).toNatClampNeg) v3 M _ e402) ?_
        refine g_istore (pc' := 1644) (lv' := [some (aR 4000000), some (aR v1), some (aR v2), some (aR v3), some (aI v4), some (aI r402), none]) dL_law_1642 rfl rfl (Nat.le_of_ble_eq_true rfl) rfl ?_
        refine g_aload_n (pc' := 1645) dL_law_1644 rfl rfl ?_
        refine g_aload_n (pc' := 1646) dL_law_1645 rfl rfl ?_
        refine g_iload (pc' := 1648) dL_law_1646 rfl rfl ?_
        refine g_iconst (pc' := 1649) (1 : Int32) dL_law_1648 rfl (by decide) ?_
        refine g_iadd (pc' := 1650) dL_law_1649 rfl ?_
        obtain ⟨b404, hf⟩ := chk_s hf
        refine g_scrAt (pc' := 1651) rfl dL_law_1650 rfl (inB_in b404) ?_
        refine g_aload_n (pc' := 1652) dL_law_1651 rfl rfl ?_
        refine g_iload (pc' := 1654) dL_law_1652 rfl rfl ?_
        refine g_iconst (pc' := 1655) (2 : Int32) dL_law_1654 rfl (by decide) ?_
        refine g_iadd (pc' := 1656) dL_law_1655 rfl ?_
        obtain ⟨b405, hf⟩ := chk_s hf
        refine g_scrAt (pc' := 1657) rfl dL_law_1656 rfl (inB_in b405) ?_
        refine g_aload_n (pc' := 1658) dL_law_1657 rfl rfl ?_
        refine g_iload (pc' := 1660) dL_law_1658 rfl rfl ?_
        refine g_iconst (pc' := 1661) (3 : Int32) dL_law_1660 rfl (by decide) ?_
        refine g_iadd (pc' := 1662) dL_law_1661 rfl ?_
        obtain ⟨b406, hf⟩ := chk_s hf
        refine g_scrAt (pc' := 1663) rfl dL_law_1662 rfl (inB_in b406) ?_
        obtain ⟨h407, hf⟩ := chk_s hf
        obtain ⟨r409, M408, e409, hf⟩ := bnd_some hf
        refine g_callVi (pc' := 1666) (k' := (k + 3)) (u' := (u + 17)) (fr2 := 4) (As := [aI (xs (v4 + (1 : Int32)).toNatClampNeg), aI (xs (v4 + (2 : Int32)).toNatClampNeg), aI (xs (v4 + (3 : Int32)).toNatClampNeg)]) (b := v2) (st := []) cf_X12_set q_1423 (by omega) (ci := 12) rfl rfl (by decide) dL_law_1663 rfl rfl rfl (Nat.le_of_ble_eq_true rfl) (Or.inl rfl) (by show (k + 3) + 0 ≤ (k + 3); omega) (by show (u + 17) + 0 ≤ (u + 17); omega) (by show (k + 3) ≤ 601024; omega) (by show (u + 17) ≤ 7293034; omega) h407 (s_X12_set v2 (xs (v4 + (1 : Int32)).toNatClampNeg) (xs (v4 + (2 : Int32)).toNatClampNeg) (xs (v4 + (3 : Int32)).toNatClampNeg) M401 _ e409) ?_
        refine g_istore (pc' := 1668) (lv' := [some (aR 4000000), some (aR v1), some (aR v2), some (aR v3), some (aI v4), some (aI r402), some (aI r409)]) dL_law_1666 rfl rfl (Nat.le_of_ble_eq_true rfl) rfl ?_
        refine g_aload_n (pc' := 1669) dL_law_1668 rfl rfl ?_
        obtain ⟨h410, hf⟩ := chk_s hf
        obtain ⟨r412, M411, e412, hf⟩ := bnd_some hf
        refine g_callVi (pc' := 1672) (k' := (k + 3)) (u' := (u + 17)) (fr2 := 1) (As := []) (b := v2) (st := []) cf_X12_thrown q_463 (by omega) (ci := 12) rfl rfl (by decide) dL_law_1669 rfl rfl rfl (Nat.le_of_ble_eq_true rfl) (Or.inl rfl) (by show (k + 3) + 0 ≤ (k + 3); omega) (by show (u + 17) + 0 ≤ (u + 17); omega) (by show (k + 3) ≤ 601024; omega) (by show (u + 17) ≤ 7293034; omega) h410 (s_X12_thrown v2 M408 _ e412) ?_
        refine g_iload (pc' := 1674) dL_law_1672 rfl rfl ?_
        refine g_icmp_eq (pc' := 1677) 1679 dL_law_1674 rfl (by decide) (fun c413 => ?_) (fun c413 => ?_)
        · have hf := ite_t c413 hf
          refine g_iload (pc' := 1681) dL_law_1679 rfl rfl ?_
          refine g_if_ne (pc' := 1684) 1696 dL_law_1681 rfl (by decide) (fun c414 => ?_) (fun c414 => ?_)
          · have hf := ite_f c414 hf
            refine g_mask [true, true, true, true, true, false, false] rfl ?_
            refine g_widen (k' := (k + 3)) (u' := (u + 17)) (by omega) (by omega) ?_
            exact s_L_law_1696 L xs (f_L_law_23 L xs n) k u (by omega) (fun v1 v2 v3 v4 M r hf => ih (k + 3) (u + 1005) v1 v2 v3 v4 M r (by omega) hf) v1 v2 v3 v4 M411 _ hf
          · have hf := ite_t c414 hf
            refine g_aload_n (pc' := 1685) dL_law_1684 rfl rfl ?_
            refine g_iconst (pc' := 1686) (0 : Int32) dL_law_1685 rfl (by decide) ?_
            obtain ⟨h415, hf⟩ := chk_s hf
            obtain ⟨b416, hf⟩ := chk_s hf
            refine g_lald (pc' := 1687) dL_law_1686 rfl h415 (inB_in b416) ?_
            refine g_iload (pc' := 1689) dL_law_1687 rfl rfl ?_
            refine g_i2l (pc' := 1690) dL_law_1689 rfl ?_
            refine g_lcmp (pc' := 1691) dL_law_1690 rfl ?_
            refine g_if_eq (pc' := 1694) 1696 dL_law_1691 rfl (by decide) (fun c417 => ?_) (fun c417 => ?_)
            · have hf := ite_t c417 hf
              refine g_mask [true, true, true, true, true, false, false] rfl ?_
              refine g_widen (k' := (k + 3)) (u' := (u + 17)) (by omega) (by omega) ?_
              exact s_L_law_1696 L xs (f_L_law_23 L xs n) k u (by omega) (fun v1 v2 v3 v4 M r hf => ih (k + 3) (u + 1005) v1 v2 v3 v4 M r (by omega) hf) v1 v2 v3 v4 M411 _ hf
            · have hf := ite_f c417 hf
              refine g_iconst (pc' := 1695) (0 : Int32) dL_law_1694 rfl (by decide) ?_
              cases hf
              exact g_zreturn dL_law_1695 rfl (Or.inl rfl) (by show (k + 3) ≤ 601024; omega) (by show (u + 17) ≤ 7293034; omega)
        · have hf := ite_f c413 hf
          refine g_iconst (pc' := 1678) (0 : Int32) dL_law_1677 rfl (by decide) ?_
          cases hf
          exact g_zreturn dL_law_1678 rfl (Or.inl rfl) (by show (k + 3) ≤ 601024; omega) (by show (u + 17) ≤ 7293034; omega)
      have hf := ite_f c397 hf
      by_cases c418 : ((xs v4.toNatClampNeg) &&& (31 : Int32)) = (24 : Int32)
      · have hf := ite_t c418 hf
        refine g_tsw (pc' := 1699) (24 : Int32) dL_law_40 c418 (by decide) (by decide) rfl (by decide) ?_
        refine g_aload_n (pc' := 1700) dL_law_1699 rfl rfl ?_
        refine g_aload_n (pc' := 1701) dL_law_1700 rfl rfl ?_
        refine g_iload (pc' := 1703) dL_law_1701 rfl rfl ?_
        refine g_iconst (pc' := 1704) (1 : Int32) dL_law_1703 rfl (by decide) ?_
        refine g_iadd (pc' := 1705) dL_law_1704 rfl ?_
        obtain ⟨b419, hf⟩ := chk_s hf
        refine g_scrAt (pc' := 1706) rfl dL_law_1705 rfl (inB_in b419) ?_
        refine g_aload_n (pc' := 1707) dL_law_1706 rfl rfl ?_
        refine g_iload (pc' := 1709) dL_law_1707 rfl rfl ?_
        refine g_iconst (pc' := 1710) (2 : Int32) dL_law_1709 rfl (by decide) ?_
        refine g_iadd (pc' := 1711) dL_law_1710 rfl ?_
        obtain ⟨b420, hf⟩ := chk_s hf
        refine g_scrAt (pc' := 1712) rfl dL_law_1711 rfl (inB_in b420) ?_
        refine g_aload_n (pc' := 1713) dL_law_1712 rfl rfl ?_
        refine g_iload (pc' := 1715) dL_law_1713 rfl rfl ?_
        refine g_iconst (pc' := 1716) (3 : Int32) dL_law_1715 rfl (by decide) ?_
        refine g_iadd (pc' := 1717) dL_law_1716 rfl ?_
        obtain ⟨b421, hf⟩ := chk_s hf
        refine g_scrAt (pc' := 1718) rfl dL_law_1717 rfl (inB_in b421) ?_
        refine g_aload_n (pc' := 1719) dL_law_1718 rfl rfl ?_
        refine g_iload (pc' := 1721) dL_law_1719 rfl rfl ?_
        refine g_iconst (pc' := 1722) (4 : Int32) dL_law_1721 rfl (by decide) ?_
        refine g_iadd (pc' := 1723) dL_law_1722 rfl ?_
        obtain ⟨b422, hf⟩ := chk_s hf
        refine g_scrAt (pc' := 1724) rfl dL_law_1723 rfl (inB_in b422) ?_
        refine g_aload_n (pc' := 1725) dL_law_1724 rfl rfl ?_
        obtain ⟨ha425, hf⟩ := chk_s hf
        obtain ⟨r424, M423, e424, hf⟩ := bnd_some hf
        refine g_callSWi (pc' := 1728) (k' := (k + 3)) (u' := (u + 18)) (fr2 := 9) (As := [aR v1, aI (xs (v4 + (1 : Int32)).toNatClampNeg), aI (xs (v4 + (2 : Int32)).toNatClampNeg), aI (xs (v4 + (3 : Int32)).toNatClampNeg), aI (xs (v4 + (4 : Int32)).toNatClampNeg), aR v3]) (st := []) cf_L_damage q_1428 (by omega) dL_law_1725 rfl rfl rfl (Nat.le_of_ble_eq_true rfl) (Or.inr ⟨Nat.one_ne_zero, okrB_ok ha425 rfl⟩) (by show k + 3 ≤ (k + 3); omega) (by show u + 18 ≤ (u + 18); omega) (by show (k + 3) ≤ 601024; omega) (by show (u + 18) ≤ 7293034; omega) (s_L_damage v1 (xs (v4 + (1 : Int32)).toNatClampNeg) (xs (v4 + (2 : Int32)).toNatClampNeg) (xs (v4 + (3 : Int32)).toNatClampNeg) (xs (v4 + (4 : Int32)).toNatClampNeg) v3 M _ e424) ?_
        refine g_istore (pc' := 1730) (lv' := [some (aR 4000000), some (aR v1), some (aR v2), some (aR v3), some (aI v4), some (aI r424), none]) dL_law_1728 rfl rfl (Nat.le_of_ble_eq_true rfl) rfl ?_
        refine g_aload_n (pc' := 1731) dL_law_1730 rfl rfl ?_
        refine g_aload_n (pc' := 1732) dL_law_1731 rfl rfl ?_
        refine g_iload (pc' := 1734) dL_law_1732 rfl rfl ?_
        refine g_iconst (pc' := 1735) (1 : Int32) dL_law_1734 rfl (by decide) ?_
        refine g_iadd (pc' := 1736) dL_law_1735 rfl ?_
        obtain ⟨b426, hf⟩ := chk_s hf
        refine g_scrAt (pc' := 1737) rfl dL_law_1736 rfl (inB_in b426) ?_
        refine g_aload_n (pc' := 1738) dL_law_1737 rfl rfl ?_
        refine g_iload (pc' := 1740) dL_law_1738 rfl rfl ?_
        refine g_iconst (pc' := 1741) (2 : Int32) dL_law_1740 rfl (by decide) ?_
        refine g_iadd (pc' := 1742) dL_law_1741 rfl ?_
        obtain ⟨b427, hf⟩ := chk_s hf
        refine g_scrAt (pc' := 1743) rfl dL_law_1742 rfl (inB_in b427) ?_
        refine g_aload_n (pc' := 1744) dL_law_1743 rfl rfl ?_
        refine g_iload (pc' := 1746) dL_law_1744 rfl rfl ?_
        refine g_iconst (pc' := 1747) (3 : Int32) dL_law_1746 rfl (by decide) ?_
        refine g_iadd (pc' := 1748) dL_law_1747 rfl ?_
        obtain ⟨b428, hf⟩ := chk_s hf
        refine g_scrAt (pc' := 1749) rfl dL_law_1748 rfl (inB_in b428) ?_
        refine g_aload_n (pc' := 1750) dL_law_1749 rfl rfl ?_
        refine g_iload (pc' := 1752) dL_law_1750 rfl rfl ?_
        refine g_iconst (pc' := 1753) (4 : Int32) dL_law_1752 rfl (by decide) ?_
        refine g_iadd (pc' := 1754) dL_law_1753 rfl ?_
        obtain ⟨b429, hf⟩ := chk_s hf
        refine g_scrAt (pc' := 1755) rfl dL_law_1754 rfl (inB_in b429) ?_
        obtain ⟨h430, hf⟩ := chk_s hf
        obtain ⟨r432, M431, e432, hf⟩ := bnd_some hf
        refine g_callVi (pc' := 1758) (k' := (k + 3)) (u' := (u + 18)) (fr2 := 4) (As := [aI (xs (v4 + (1 : Int32)).toNatClampNeg), aI (xs (v4 + (2 : Int32)).toNatClampNeg), aI (xs (v4 + (3 : Int32)).toNatClampNeg), aI (xs (v4 + (4 : Int32)).toNatClampNeg)]) (b := v2) (st := []) cf_X12_damage q_1435 (by omega) (ci := 12) rfl rfl (by decide) dL_law_1755 rfl rfl rfl (Nat.le_of_ble_eq_true rfl) (Or.inl rfl) (by show (k + 3) + 0 ≤ (k + 3); omega) (by show (u + 18) + 0 ≤ (u + 18); omega) (by show (k + 3) ≤ 601024; omega) (by show (u + 18) ≤ 7293034; omega) h430 (s_X12_damage v2 (xs (v4 + (1 : Int32)).toNatClampNeg) (xs (v4 + (2 : Int32)).toNatClampNeg) (xs (v4 + (3 : Int32)).toNatClampNeg) (xs (v4 + (4 : Int32)).toNatClampNeg) M423 _ e432) ?_
        refine g_istore (pc' := 1760) (lv' := [some (aR 4000000), some (aR v1), some (aR v2), some (aR v3), some (aI v4), some (aI r424), some (aI r432)]) dL_law_1758 rfl rfl (Nat.le_of_ble_eq_true rfl) rfl ?_
        refine g_aload_n (pc' := 1761) dL_law_1760 rfl rfl ?_
        obtain ⟨h433, hf⟩ := chk_s hf
        obtain ⟨r435, M434, e435, hf⟩ := bnd_some hf
        refine g_callVi (pc' := 1764) (k' := (k + 3)) (u' := (u + 18)) (fr2 := 1) (As := []) (b := v2) (st := []) cf_X12_thrown q_463 (by omega) (ci := 12) rfl rfl (by decide) dL_law_1761 rfl rfl rfl (Nat.le_of_ble_eq_true rfl) (Or.inl rfl) (by show (k + 3) + 0 ≤ (k + 3); omega) (by show (u + 18) + 0 ≤ (u + 18); omega) (by show (k + 3) ≤ 601024; omega) (by show (u + 18) ≤ 7293034; omega) h433 (s_X12_thrown v2 M431 _ e435) ?_
        refine g_iload (pc' := 1766) dL_law_1764 rfl rfl ?_
        refine g_icmp_eq (pc' := 1769) 1771 dL_law_1766 rfl (by decide) (fun c436 => ?_) (fun c436 => ?_)
        · have hf := ite_t c436 hf
          refine g_iload (pc' := 1773) dL_law_1771 rfl rfl ?_
          refine g_if_ne (pc' := 1776) 1788 dL_law_1773 rfl (by decide) (fun c437 => ?_) (fun c437 => ?_)
          · have hf := ite_f c437 hf
            refine g_mask [true, true, true, true, true, false, false] rfl ?_
            refine g_widen (k' := (k + 3)) (u' := (u + 18)) (by omega) (by omega) ?_
            exact s_L_law_1788 L xs (f_L_law_23 L xs n) k u (by omega) (fun v1 v2 v3 v4 M r hf => ih (k + 3) (u + 1005) v1 v2 v3 v4 M r (by omega) hf) v1 v2 v3 v4 M434 _ hf
          · have hf := ite_t c437 hf
            refine g_aload_n (pc' := 1777) dL_law_1776 rfl rfl ?_
            refine g_iconst (pc' := 1778) (0 : Int32) dL_law_1777 rfl (by decide) ?_
            obtain ⟨h438, hf⟩ := chk_s hf
            obtain ⟨b439, hf⟩ := chk_s hf
            refine g_lald (pc' := 1779) dL_law_1778 rfl h438 (inB_in b439) ?_
            refine g_iload (pc' := 1781) dL_law_1779 rfl rfl ?_
            refine g_i2l (pc' := 1782) dL_law_1781 rfl ?_
            refine g_lcmp (pc' := 1783) dL_law_1782 rfl ?_
            refine g_if_eq (pc' := 1786) 1788 dL_law_1783 rfl (by decide) (fun c440 => ?_) (fun c440 => ?_)
            · have hf := ite_t c440 hf
              refine g_mask [true, true, true, true, true, false, false] rfl ?_
              refine g_widen (k' := (k + 3)) (u' := (u + 18)) (by omega) (by omega) ?_
              exact s_L_law_1788 L xs (f_L_law_23 L xs n) k u (by omega) (fun v1 v2 v3 v4 M r hf => ih (k + 3) (u + 1005) v1 v2 v3 v4 M r (by omega) hf) v1 v2 v3 v4 M434 _ hf
            · have hf := ite_f c440 hf
              refine g_iconst (pc' := 1787) (0 : Int32) dL_law_1786 rfl (by decide) ?_
              cases hf
              exact g_zreturn dL_law_1787 rfl (Or.inl rfl) (by show (k + 3) ≤ 601024; omega) (by show (u + 18) ≤ 7293034; omega)
        · have hf := ite_f c436 hf
          refine g_iconst (pc' := 1770) (0 : Int32) dL_law_1769 rfl (by decide) ?_
          cases hf
          exact g_zreturn dL_law_1770 rfl (Or.inl rfl) (by show (k + 3) ≤ 601024; omega) (by show (u + 18) ≤ 7293034; omega)
      have hf := ite_f c418 hf
      by_cases c441 : ((xs v4.toNatClampNeg) &&& (31 : Int32)) = (25 : Int32)
      · have hf := ite_t c441 hf
        refine g_tsw (pc' := 1791) (25 : Int32) dL_law_40 c441 (by decide) (by decide) rfl (by decide) ?_
        refine g_aload_n (pc' := 1792) dL_law_1791 rfl rfl ?_
        obtain ⟨h442, hf⟩ := chk_s hf
        obtain ⟨r444, M443, e444, hf⟩ := bnd_some hf
        refine g_callVi (pc' := 1795) (k' := k) (u' := u) (fr2 := 5) (As := []) (b := v1) (st := []) cf_X11_undo q_1440 (by omega) (ci := 11) rfl rfl (by decide) dL_law_1792 rfl rfl rfl (Nat.le_of_ble_eq_true rfl) (Or.inl rfl) (by show k + 0 ≤ k; omega) (by show u + 0 ≤ u; omega) (by show k ≤ 601024; omega) (by show u ≤ 7293034; omega) h442 (s_X11_undo v1 M _ e444) ?_
        refine g_aload_n (pc' := 1796) dL_law_1795 rfl rfl ?_
        obtain ⟨h445, hf⟩ := chk_s hf
        obtain ⟨r447, M446, e447, hf⟩ := bnd_some hf
        refine g_callVi (pc' := 1799) (k' := k) (u' := u) (fr2 := 2) (As := []) (b := v2) (st := [aI r444]) cf_X12_undo q_1466 (by omega) (ci := 12) rfl rfl (by decide) dL_law_1796 rfl rfl rfl (Nat.le_of_ble_eq_true rfl) (Or.inl rfl) (by show k + 0 ≤ k; omega) (by show u + 0 ≤ u; omega) (by show k ≤ 601024; omega) (by show u ≤ 7293034; omega) h445 (s_X12_undo v2 M443 _ e447) ?_
        refine g_icmp_eq (pc' := 1802) 1908 dL_law_1799 rfl (by decide) (fun c448 => ?_) (fun c448 => ?_)
        · have hf := ite_t c448 hf
          refine g_widen (k' := (k + 3)) (u' := (u + 1005)) (by omega) (by omega) ?_
          exact s_L_law_1908 L xs (f_L_law_23 L xs n) k u (by omega) (fun v1 v2 v3 v4 M r hf => ih (k + 3) (u + 1005) v1 v2 v3 v4 M r (by omega) hf) v1 v2 v3 v4 M446 _ hf
        · have hf := ite_f c448 hf
          refine g_iconst (pc' := 1803) (0 : Int32) dL_law_1802 rfl (by decide) ?_
          cases hf
          exact g_zreturn dL_law_1803 rfl (Or.inl rfl) (by show k ≤ 601024; omega) (by show u ≤ 7293034; omega)
      have hf := ite_f c441 hf
      by_cases c449 : ((xs v4.toNatClampNeg) &&& (31 : Int32)) = (26 : Int32)
      · have hf := ite_t c449 hf
        refine g_tsw (pc' := 1804) (26 : Int32) dL_law_40 c449 (by decide) (by decide) rfl (by decide) ?_
        refine g_aload_n (pc' := 1805) dL_law_1804 rfl rfl ?_
        refine g_aload_n (pc' := 1806) dL_law_1805 rfl rfl ?_
        refine g_iload (pc' := 1808) dL_law_1806 rfl rfl ?_
        refine g_iconst (pc' := 1809) (1 : Int32) dL_law_1808 rfl (by decide) ?_
        refine g_iadd (pc' := 1810) dL_law_1809 rfl ?_
        obtain ⟨b450, hf⟩ := chk_s hf
        refine g_scrAt (pc' := 1811) rfl dL_law_1810 rfl (inB_in b450) ?_
        refine g_aload_n (pc' := 1812) dL_law_1811 rfl rfl ?_
        refine g_iload (pc' := 1814) dL_law_1812 rfl rfl ?_
        refine g_iconst (pc' := 1815) (2 : Int32) dL_law_1814 rfl (by decide) ?_
        refine g_iadd (pc' := 1816) dL_law_1815 rfl ?_
        obtain ⟨b451, hf⟩ := chk_s hf
        refine g_scrAt (pc' := 1817) rfl dL_law_1816 rfl (inB_in b451) ?_
        refine g_aload_n (pc' := 1818) dL_law_1817 rfl rfl ?_
        refine g_iload (pc' := 1820) dL_law_1818 rfl rfl ?_
        refine g_iconst (pc' := 1821) (3 : Int32) dL_law_1820 rfl (by decide) ?_
        refine g_iadd (pc' := 1822) dL_law_1821 rfl ?_
        obtain ⟨b452, hf⟩ := chk_s hf
        refine g_scrAt (pc' := 1823) rfl dL_law_1822 rfl (inB_in b452) ?_
        refine g_aload_n (pc' := 1824) dL_law_1823 rfl rfl ?_
        obtain ⟨r454, M453, e454, hf⟩ := bnd_some hf
        refine g_callSWi (pc' := 1827) (k' := (k + 1)) (u' := (u + 6)) (fr2 := 28) (As := [aR v1, aI (xs (v4 + (1 : Int32)).toNatClampNeg), aI (xs (v4 + (2 : Int32)).toNatClampNeg), aI (xs (v4 + (3 : Int32)).toNatClampNeg), aR v3]) (st := []) cf_L_years q_1470 (by omega) dL_law_1824 rfl rfl rfl (Nat.le_of_ble_eq_true rfl) (Or.inl rfl) (by show k + 1 ≤ (k + 1); omega) (by show u + 6 ≤ (u + 6); omega) (by show (k + 1) ≤ 601024; omega) (by show (u + 6) ≤ 7293034; omega) (s_L_years v1 (xs (v4 + (1 : Int32)).toNatClampNeg) (xs (v4 + (2 : Int32)).toNatClampNeg) (xs (v4 + (3 : Int32)).toNatClampNeg) v3 M _ e454) ?_
        refine g_istore (pc' := 1829) (lv' := [some (aR 4000000), some (aR v1), some (aR v2), some (aR v3), some (aI v4), some (aI r454), none]) dL_law_1827 rfl rfl (Nat.le_of_ble_eq_true rfl) rfl ?_
        refine g_aload_n (pc' := 1830) dL_law_1829 rfl rfl ?_
        refine g_aload_n (pc' := 1831) dL_law_1830 rfl rfl ?_
        refine g_iload (pc' := 1833) dL_law_1831 rfl rfl ?_
        refine g_iconst (pc' := 1834) (1 : Int32) dL_law_1833 rfl (by decide) ?_
        refine g_iadd (pc' := 1835) dL_law_1834 rfl ?_
        obtain ⟨b455, hf⟩ := chk_s hf
        refine g_scrAt (pc' := 1836) rfl dL_law_1835 rfl (inB_in b455) ?_
        refine g_aload_n (pc' := 1837) dL_law_1836 rfl rfl ?_
        refine g_iload (pc' := 1839) dL_law_1837 rfl rfl ?_
        refine g_iconst (pc' := 1840) (2 : Int32) dL_law_1839 rfl (by decide) ?_
        refine g_iadd (pc' := 1841) dL_law_1840 rfl ?_
        obtain ⟨b456, hf⟩ := chk_s hf
        refine g_scrAt (pc' := 1842) rfl dL_law_1841 rfl (inB_in b456) ?_
        refine g_aload_n (pc' := 1843) dL_law_1842 rfl rfl ?_
        refine g_iload (pc' := 1845) dL_law_1843 rfl rfl ?_
        refine g_iconst (pc' := 1846) (3 : Int32) dL_law_1845 rfl (by decide) ?_
        refine g_iadd (pc' := 1847) dL_law_1846 rfl ?_
        obtain ⟨b457, hf⟩ := chk_s hf
        refine g_scrAt (pc' := 1848) rfl dL_law_1847 rfl (inB_in b457) ?_
        obtain ⟨h458, hf⟩ := chk_s hf
        obtain ⟨r460, M459, e460, hf⟩ := bnd_some hf
        refine g_callVi (pc' := 1851) (k' := (k + 1)) (u' := (u + 6)) (fr2 := 25) (As := [aI (xs (v4 + (1 : Int32)).toNatClampNeg), aI (xs (v4 + (2 : Int32)).toNatClampNeg), aI (xs (v4 + (3 : Int32)).toNatClampNeg)]) (b := v2) (st := []) cf_X12_years q_1531 (by omega) (ci := 12) rfl rfl (by decide) dL_law_1848 rfl rfl rfl (Nat.le_of_ble_eq_true rfl) (Or.inl rfl) (by show (k + 1) + 0 ≤ (k + 1); omega) (by show (u + 6) + 0 ≤ (u + 6); omega) (by show (k + 1) ≤ 601024; omega) (by show (u + 6) ≤ 7293034; omega) h458 (s_X12_years v2 (xs (v4 + (1 : Int32)).toNatClampNeg) (xs (v4 + (2 : Int32)).toNatClampNeg) (xs (v4 + (3 : Int32)).toNatClampNeg) M453 _ e460) ?_
        refine g_istore (pc' := 1853) (lv' := [some (aR 4000000), some (aR v1), some (aR v2), some (aR v3), some (aI v4), some (aI r454), some (aI r460)]) dL_law_1851 rfl rfl (Nat.le_of_ble_eq_true rfl) rfl ?_
        refine g_aload_n (pc' := 1854) dL_law_1853 rfl rfl ?_
        obtain ⟨h461, hf⟩ := chk_s hf
        obtain ⟨r463, M462, e463, hf⟩ := bnd_some hf
        refine g_callVi (pc' := 1857) (k' := (k + 1)) (u' := (u + 6)) (fr2 := 1) (As := []) (b := v2) (st := []) cf_X12_thrown q_463 (by omega) (ci := 12) rfl rfl (by decide) dL_law_1854 rfl rfl rfl (Nat.le_of_ble_eq_true rfl) (Or.inl rfl) (by show (k + 1) + 0 ≤ (k + 1); omega) (by show (u + 6) + 0 ≤ (u + 6); omega) (by show (k + 1) ≤ 601024; omega) (by show (u + 6) ≤ 7293034; omega) h461 (s_X12_thrown v2 M459 _ e463) ?_
        refine g_iload (pc' := 1859) dL_law_1857 rfl rfl ?_
        refine g_icmp_eq (pc' := 1862) 1864 dL_law_1859 rfl (by decide) (fun c464 => ?_) (fun c464 => ?_)
        · have hf := ite_t c464 hf
          refine g_iload (pc' := 1866) dL_law_1864 rfl rfl ?_
          refine g_if_ne (pc' := 1869) 1881 dL_law_1866 rfl (by decide) (fun c465 => ?_) (fun c465 => ?_)
          · have hf := ite_f c465 hf
            refine g_mask [true, true, true, true, true, false, false] rfl ?_
            refine g_widen (k' := (k + 1)) (u' := (u + 6)) (by omega) (by omega) ?_
            exact s_L_law_1881 L xs (f_L_law_23 L xs n) k u (by omega) (fun v1 v2 v3 v4 M r hf => ih (k + 3) (u + 1005) v1 v2 v3 v4 M r (by omega) hf) v1 v2 v3 v4 M462 _ hf
          · have hf := ite_t c465 hf
            refine g_aload_n (pc' := 1870) dL_law_1869 rfl rfl ?_
            refine g_iconst (pc' := 1871) (0 : Int32) dL_law_1870 rfl (by decide) ?_
            obtain ⟨h466, hf⟩ := chk_s hf
            obtain ⟨b467, hf⟩ := chk_s hf
            refine g_lald (pc' := 1872) dL_law_1871 rfl h466 (inB_in b467) ?_
            refine g_iload (pc' := 1874) dL_law_1872 rfl rfl ?_
            refine g_i2l (pc' := 1875) dL_law_1874 rfl ?_
            refine g_lcmp (pc' := 1876) dL_law_1875 rfl ?_
            refine g_if_eq (pc' := 1879) 1881 dL_law_1876 rfl (by decide) (fun c468 => ?_) (fun c468 => ?_)
            · have hf := ite_t c468 hf
              refine g_mask [true, true, true, true, true, false, false] rfl ?_
              refine g_widen (k' := (k + 1)) (u' := (u + 6)) (by omega) (by omega) ?_
              exact s_L_law_1881 L xs (f_L_law_23 L xs n) k u (by omega) (fun v1 v2 v3 v4 M r hf => ih (k + 3) (u + 1005) v1 v2 v3 v4 M r (by omega) hf) v1 v2 v3 v4 M462 _ hf
            · have hf := ite_f c468 hf
              refine g_iconst (pc' := 1880) (0 : Int32) dL_law_1879 rfl (by decide) ?_
              cases hf
              exact g_zreturn dL_law_1880 rfl (Or.inl rfl) (by show (k + 1) ≤ 601024; omega) (by show (u + 6) ≤ 7293034; omega)
        · have hf := ite_f c464 hf
          refine g_iconst (pc' := 1863) (0 : Int32) dL_law_1862 rfl (by decide) ?_
          cases hf
          exact g_zreturn dL_law_1863 rfl (Or.inl rfl) (by show (k + 1) ≤ 601024; omega) (by show (u + 6) ≤ 7293034; omega)
      have hf := ite_f c449 hf
      by_cases c469 : ((xs v4.toNatClampNeg) &&& (31 : Int32)) = (27 : Int32)
      · have hf := ite_t c469 hf
        refine g_tsw (pc' := 1884) (27 : Int32) dL_law_40 c469 (by decide) (by decide) rfl (by decide) ?_
        refine g_aload_n (pc' := 1885) dL_law_1884 rfl rfl ?_
        obtain ⟨h470, hf⟩ := chk_s hf
        obtain ⟨_, M471, e472, hf⟩ := bnd_some hf
        refine g_callVv (pc' := 1888) (k' := k) (u' := u) (fr2 := 3) (As := []) (b := v1) (st := []) cf_X11_image q_1555 (by omega) (ci := 11) rfl rfl (by decide) dL_law_1885 rfl rfl rfl (Nat.le_of_ble_eq_true rfl) (Or.inl rfl) (by show k + 0 ≤ k; omega) (by show u + 0 ≤ u; omega) (by show k ≤ 601024; omega) (by show u ≤ 7293034; omega) h470 (s_X11_image v1 M _ e472) ?_
        refine g_aload_n (pc' := 1889) dL_law_1888 rfl rfl ?_
        obtain ⟨h473, hf⟩ := chk_s hf
        obtain ⟨_, M474, e475, hf⟩ := bnd_some hf
        refine g_callVv (pc' := 1892) (k' := k) (u' := u) (fr2 := 2) (As := []) (b := v2) (st := []) cf_X12_image q_1570 (by omega) (ci := 12) rfl rfl (by decide) dL_law_1889 rfl rfl rfl (Nat.le_of_ble_eq_true rfl) (Or.inl rfl) (by show k + 0 ≤ k; omega) (by show u + 0 ≤ u; omega) (by show k ≤ 601024; omega) (by show u ≤ 7293034; omega) h473 (s_X12_image v2 M471 _ e475) ?_
        refine g_goto (pc' := 1908) dL_law_1892 (by decide) ?_
        refine g_widen (k' := (k + 3)) (u' := (u + 1005)) (by omega) (by omega) ?_
        exact s_L_law_1908 L xs (f_L_law_23 L xs n) k u (by omega) (fun v1 v2 v3 v4 M r hf => ih (k + 3) (u + 1005) v1 v2 v3 v4 M r (by omega) hf) v1 v2 v3 v4 M474 _ hf
      have hf := ite_f c469 hf
      by_cases c476 : ((xs v4.toNatClampNeg) &&& (31 : Int32)) = (28 : Int32)
      · have hf := ite_t c476 hf
        refine g_tsw (pc' := 1895) (28 : Int32) dL_law_40 c476 (by decide) (by decide) rfl (by decide) ?_
        refine g_aload_n (pc' := 1896) dL_law_1895 rfl rfl ?_
        obtain ⟨h477, hf⟩ := chk_s hf
        obtain ⟨r479, M478, e479, hf⟩ := bnd_some hf
        refine g_callVi (pc' := 1899) (k' := k) (u' := u) (fr2 := 3) (As := []) (b := v1) (st := []) cf_X11_restore q_1578 (by omega) (ci := 11) rfl rfl (by decide) dL_law_1896 rfl rfl rfl (Nat.le_of_ble_eq_true rfl) (Or.inl rfl) (by show k + 0 ≤ k; omega) (by show u + 0 ≤ u; omega) (by show k ≤ 601024; omega) (by show u ≤ 7293034; omega) h477 (s_X11_restore v1 M _ e479) ?_
        refine g_aload_n (pc' := 1900) dL_law_1899 rfl rfl ?_
        obtain ⟨h480, hf⟩ := chk_s hf
        obtain ⟨r482, M481, e482, hf⟩ := bnd_some hf
        refine g_callVi (pc' := 1903) (k' := k) (u' := u) (fr2 := 2) (As := []) (b := v2) (st := [aI r479]) cf_X12_restore q_1582 (by omega) (ci := 12) rfl rfl (by decide) dL_law_1900 rfl rfl rfl (Nat.le_of_ble_eq_true rfl) (Or.inl rfl) (by show k + 0 ≤ k; omega) (by show u + 0 ≤ u; omega) (by show k ≤ 601024; omega) (by show u ≤ 7293034; omega) h480 (s_X12_restore v2 M478 _ e482) ?_
        refine g_icmp_eq (pc' := 1906) 1908 dL_law_1903 rfl (by decide) (fun c483 => ?_) (fun c483 => ?_)
        · have hf := ite_t c483 hf
          refine g_widen (k' := (k + 3)) (u' := (u + 1005)) (by omega) (by omega) ?_
          exact s_L_law_1908 L xs (f_L_law_23 L xs n) k u (by omega) (fun v1 v2 v3 v4 M r hf => ih (k + 3) (u + 1005) v1 v2 v3 v4 M r (by omega) hf) v1 v2 v3 v4 M481 _ hf
        · have hf := ite_f c483 hf
          refine g_iconst (pc' := 1907) (0 : Int32) dL_law_1906 rfl (by decide) ?_
          cases hf
          exact g_zreturn dL_law_1907 rfl (Or.inl rfl) (by show k ≤ 601024; omega) (by show u ≤ 7293034; omega)
      have hf := ite_f c476 hf
      have nc3 := nei c3 (z := 0) (by decide)
      have nc21 := nei c21 (z := 1) (by decide)
      have nc37 := nei c37 (z := 2) (by decide)
      have nc54 := nei c54 (z := 3) (by decide)
      have nc70 := nei c70 (z := 4) (by decide)
      have nc86 := nei c86 (z := 5) (by decide)
      have nc94 := nei c94 (z := 6) (by decide)
      have nc110 := nei c110 (z := 7) (by decide)
      have nc128 := nei c128 (z := 8) (by decide)
      have nc146 := nei c146 (z := 9) (by decide)
      have nc164 := nei c164 (z := 10) (by decide)
      have nc184 := nei c184 (z := 11) (by decide)
      have nc204 := nei c204 (z := 12) (by decide)
      have nc224 := nei c224 (z := 13) (by decide)
      have nc242 := nei c242 (z := 14) (by decide)
      have nc262 := nei c262 (z := 15) (by decide)
      have nc280 := nei c280 (z := 16) (by decide)
      have nc296 := nei c296 (z := 17) (by decide)
      have nc314 := nei c314 (z := 18) (by decide)
      have nc332 := nei c332 (z := 19) (by decide)
      have nc352 := nei c352 (z := 20) (by decide)
      have nc370 := nei c370 (z := 21) (by decide)
      have nc388 := nei c388 (z := 22) (by decide)
      have nc397 := nei c397 (z := 23) (by decide)
      have nc418 := nei c418 (z := 24) (by decide)
      have nc441 := nei c441 (z := 25) (by decide)
      have nc449 := nei c449 (z := 26) (by decide)
      have nc469 := nei c469 (z := 27) (by decide)
      have nc476 := nei c476 (z := 28) (by decide)
      refine g_tableOut (pc' := 1908) dL_law_40 (by omega) (by decide) ?_
      refine g_widen (k' := (k + 3)) (u' := (u + 1005)) (by omega) (by omega) ?_
      exact s_L_law_1908 L xs (f_L_law_23 L xs n) k u (by omega) (fun v1 v2 v3 v4 M r hf => ih (k + 3) (u + 1005) v1 v2 v3 v4 M r (by omega) hf) v1 v2 v3 v4 M _ hf
set_option maxRecDepth 100000 in
set_option maxHeartbeats 8000000 in
theorem s_law (L : Nat) (xs : Nat → Int32) (M : Mem) (r : (Int32 × Mem)) (hf : f_law L xs M = some r) : G (mi_law L xs) 51 (oI r.1) r.2 0 [some (aR 4000000), none, none, none, none, none, none] [] M 0 0 := by
  unfold f_law at hf
  obtain ⟨hm1, hf⟩ := chk_s hf
  obtain ⟨ha1, hf⟩ := chk_s hf
  refine g_new (pc' := 3) (k' := 1) (u' := 15) 11 rfl rfl (by decide) inX11 tyX11_ok dfX11 Nat.one_ne_zero q_0 q_1 q_2 dL_law_0 rfl hm1 (okrB_ok ha1 rfl) (by omega) (by omega) (by show 1 ≤ 601024; omega) (by show 15 ≤ 7293034; omega) (gM fun M2 hM2 => ?_)
  have hf := ap_eq hf hM2
  refine g_dup (pc' := 4) dL_law_3 rfl rfl ?_
  obtain ⟨ho3, hf⟩ := chk_s hf
  obtain ⟨ha6, hf⟩ := chk_s hf
  obtain ⟨_, M4, e5, hf⟩ := bnd_some hf
  refine g_callIv (pc' := 7) (k' := 133) (u' := 7771) (fr2 := 3) (As := []) (b := (mn M + 1)) (st := [aR (mn M + 1)]) cf_X11_init q_7 (by omega) ho3 dL_law_4 rfl rfl rfl (Nat.le_of_ble_eq_true rfl) (Or.inr ⟨Nat.one_ne_zero, okrB_ok ha6 rfl⟩) (by show 1 + 132 ≤ 133; omega) (by show 15 + 7756 ≤ 7771; omega) (by show 133 ≤ 601024; omega) (by show 7771 ≤ 7293034; omega) (s_X11_init (mn M + 1) M2 _ e5) ?_
  refine g_astore_n (pc' := 8) (lv' := [some (aR 4000000), some (aR (mn M + 1)), none, none, none, none, none]) dL_law_7 rfl rfl (Nat.le_of_ble_eq_true rfl) rfl ?_
  obtain ⟨hm7, hf⟩ := chk_s hf
  obtain ⟨ha7, hf⟩ := chk_s hf
  refine g_new (pc' := 11) (k' := 134) (u' := 7826) 12 rfl rfl (by decide) inX12 tyX12_ok dfX12 Nat.one_ne_zero q_3 q_4 q_5 dL_law_8 rfl hm7 (okrB_ok ha7 rfl) (by omega) (by omega) (by show 134 ≤ 601024; omega) (by show 7826 ≤ 7293034; omega) (gM fun M8 hM8 => ?_)
  have hf := ap_eq hf hM8
  refine g_dup (pc' := 12) dL_law_11 rfl rfl ?_
  obtain ⟨ho9, hf⟩ := chk_s hf
  obtain ⟨ha12, hf⟩ := chk_s hf
  obtain ⟨_, M10, e11, hf⟩ := bnd_some hf
  refine g_callIv (pc' := 15) (k' := 163) (u' := 90621) (fr2 := 1) (As := []) (b := (mn M4 + 1)) (st := [aR (mn M4 + 1)]) cf_X12_init q_117 (by omega) ho9 dL_law_12 rfl rfl rfl (Nat.le_of_ble_eq_true rfl) (Or.inr ⟨Nat.one_ne_zero, okrB_ok ha12 rfl⟩) (by show 134 + 29 ≤ 163; omega) (by show 7826 + 82795 ≤ 90621; omega) (by show 163 ≤ 601024; omega) (by show 90621 ≤ 7293034; omega) (s_X12_init (mn M4 + 1) M8 _ e11) ?_
  refine g_astore_n (pc' := 16) (lv' := [some (aR 4000000), some (aR (mn M + 1)), some (aR (mn M4 + 1)), none, none, none, none]) dL_law_15 rfl rfl (Nat.le_of_ble_eq_true rfl) rfl ?_
  refine g_iconst (pc' := 17) (1 : Int32) dL_law_16 rfl (by decide) ?_
  obtain ⟨hm13, hf⟩ := chk_s hf
  obtain ⟨ha13, hf⟩ := chk_s hf
  refine g_newJ (pc' := 19) (k' := 164) (u' := 90622) Nat.one_ne_zero wall_along dL_law_17 rfl (by decide) (by decide) hm13 (okrB_ok ha13 rfl) (by omega) (by show 90621 + 1 ≤ 90622; omega) (by show 164 ≤ 601024; omega) (by show 90622 ≤ 7293034; omega) (gM fun M14 hM14 => ?_)
  have hf := ap_eq hf hM14
  refine g_astore_n (pc' := 20) (lv' := [some (aR 4000000), some (aR (mn M + 1)), some (aR (mn M4 + 1)), some (aR (mn M10 + 1)), none, none, none]) dL_law_19 rfl rfl (Nat.le_of_ble_eq_true rfl) rfl ?_
  refine g_iconst (pc' := 21) (0 : Int32) dL_law_20 rfl (by decide) ?_
  refine g_istore (pc' := 23) (lv' := [some (aR 4000000), some (aR (mn M + 1)), some (aR (mn M4 + 1)), some (aR (mn M10 + 1)), some (aI (0 : Int32)), none, none]) dL_law_21 rfl rfl (Nat.le_of_ble_eq_true rfl) rfl ?_
  exact s_L_law_23 L xs 600 164 90622 (mn M + 1) (mn M4 + 1) (mn M10 + 1) (0 : Int32) M14 _ (by omega) hf
