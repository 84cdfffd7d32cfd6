def w_sh (L : Nat) (ps : List (Option (Option Nat))) (rest : List mj_K) : List mj_K := (1000, L, []) :: (1000, 5, []) :: (6, 7, [some (some 3), some (some 9), some (some 47), some (some 49), some (some 50), some (some 51), none]) :: (5, 10, [none, none, none, none, none, some (some 4), some (some 5), some (some 6), some (some 7), some (some 8)]) :: (0, 640, []) :: (0, 80, []) :: (0, 10, []) :: (0, 4, []) :: (0, 4, []) :: (4, 2, [some (some 10), none]) :: (2, 6, ps) :: (5, 10, [none, none, none, none, none, some (some 12), some (some 13), some (some 14), some (some 15), some (some 16)]) :: (0, 640, []) :: (0, 80, []) :: (0, 10, []) :: (0, 4, []) :: (0, 4, []) :: (5, 10, [none, none, none, none, none, some (some 18), some (some 19), some (some 20), some (some 21), some (some 22)]) :: (0, 640, []) :: (0, 80, []) :: (0, 10, []) :: (0, 4, []) :: (0, 4, []) :: (5, 10, [none, none, none, none, none, some (some 24), some (some 25), some (some 26), some (some 27), some (some 28)]) :: (0, 640, []) :: (0, 80, []) :: (0, 10, []) :: (0, 4, []) :: (0, 4, []) :: (5, 10, [none, none, none, none, none, some (some 30), some (some 31), some (some 32), some (some 33), some (some 34)]) :: (0, 640, []) :: (0, 80, []) :: (0, 10, []) :: (0, 4, []) :: (0, 4, []) :: (5, 10, [none, none, none, none, none, some (some 36), some (some 37), some (some 38), some (some 39), some (some 40)]) :: (0, 640, []) :: (0, 80, []) :: (0, 10, []) :: (0, 4, []) :: (0, 4, []) :: (5, 10, [none, none, none, none, none, some (some 42), some (some 43), some (some 44), some (some 45), some (some 46)]) :: (0, 640, []) :: (0, 80, []) :: (0, 10, []) :: (0, 4, []) :: (0, 4, []) :: (3, 5, [none, none, some (some 48), none, none]) :: (0, 8, []) :: (0, 8, []) :: (0, 8, []) :: (1, 80, []) :: rest
theorem w_0 {L : Nat} {ps : List (Option (Option Nat))} {rest : List mj_K} : (w_sh L ps rest)[0]? = some (1000, L, []) := rfl
theorem w_1 {L : Nat} {ps : List (Option (Option Nat))} {rest : List mj_K} : (w_sh L ps rest)[1]? = some (1000, 5, []) := rfl
theorem w_2 {L : Nat} {ps : List (Option (Option Nat))} {rest : List mj_K} : (w_sh L ps rest)[2]? = some (6, 7, [some (some 3), some (some 9), some (some 47), some (some 49), some (some 50), some (some 51), none]) := rfl
theorem w_3 {L : Nat} {ps : List (Option (Option Nat))} {rest : List mj_K} : (w_sh L ps rest)[3]? = some (5, 10, [none, none, none, none, none, some (some 4), some (some 5), some (some 6), some (some 7), some (some 8)]) := rfl
theorem w_4 {L : Nat} {ps : List (Option (Option Nat))} {rest : List mj_K} : (w_sh L ps rest)[4]? = some (0, 640, []) := rfl
theorem w_5 {L : Nat} {ps : List (Option (Option Nat))} {rest : List mj_K} : (w_sh L ps rest)[5]? = some (0, 80, []) := rfl
theorem w_6 {L : Nat} {ps : List (Option (Option Nat))} {rest : List mj_K} : (w_sh L ps rest)[6]? = some (0, 10, []) := rfl
theorem w_7 {L : Nat} {ps : List (Option (Option Nat))} {rest : List mj_K} : (w_sh L ps rest)[7]? = some (0, 4, []) := rfl
theorem w_8 {L : Nat} {ps : List (Option (Option Nat))} {rest : List mj_K} : (w_sh L ps rest)[8]? = some (0, 4, []) := rfl
theorem w_9 {L : Nat} {ps : List (Option (Option Nat))} {rest : List mj_K} : (w_sh L ps rest)[9]? = some (4, 2, [some (some 10), none]) := rfl
theorem w_10 {L : Nat} {ps : List (Option (Option Nat))} {rest : List mj_K} : (w_sh L ps rest)[10]? = some (2, 6, ps) := rfl
theorem w_11 {L : Nat} {ps : List (Option (Option Nat))} {rest : List mj_K} : (w_sh L ps rest)[11]? = some (5, 10, [none, none, none, none, none, some (some 12), some (some 13), some (some 14), some (some 15), some (some 16)]) := rfl
theorem w_12 {L : Nat} {ps : List (Option (Option Nat))} {rest : List mj_K} : (w_sh L ps rest)[12]? = some (0, 640, []) := rfl
theorem w_13 {L : Nat} {ps : List (Option (Option Nat))} {rest : List mj_K} : (w_sh L ps rest)[13]? = some (0, 80, []) := rfl
theorem w_14 {L : Nat} {ps : List (Option (Option Nat))} {rest : List mj_K} : (w_sh L ps rest)[14]? = some (0, 10, []) := rfl
theorem w_15 {L : Nat} {ps : List (Option (Option Nat))} {rest : List mj_K} : (w_sh L ps rest)[15]? = some (0, 4, []) := rfl
theorem w_16 {L : Nat} {ps : List (Option (Option Nat))} {rest : List mj_K} : (w_sh L ps rest)[16]? = some (0, 4, []) := rfl
theorem w_17 {L : Nat} {ps : List (Option (Option Nat))} {rest : List mj_K} : (w_sh L ps rest)[17]? = some (5, 10, [none, none, none, none, none, some (some 18), some (some 19), some (some 20), some (some 21), some (some 22)]) := rfl
theorem w_18 {L : Nat} {ps : List (Option (Option Nat))} {rest : List mj_K} : (w_sh L ps rest)[18]? = some (0, 640, []) := rfl
theorem w_19 {L : Nat} {ps : List (Option (Option Nat))} {rest : List mj_K} : (w_sh L ps rest)[19]? = some (0, 80, []) := rfl
theorem w_20 {L : Nat} {ps : List (Option (Option Nat))} {rest : List mj_K} : (w_sh L ps rest)[20]? = some (0, 10, []) := rfl
theorem w_21 {L : Nat} {ps : List (Option (Option Nat))} {rest : List mj_K} : (w_sh L ps rest)[21]? = some (0, 4, []) := rfl
theorem w_22 {L : Nat} {ps : List (Option (Option Nat))} {rest : List mj_K} : (w_sh L ps rest)[22]? = some (0, 4, []) := rfl
theorem w_23 {L : Nat} {ps : List (Option (Option Nat))} {rest : List mj_K} : (w_sh L ps rest)[23]? = some (5, 10, [none, none, none, none, none, some (some 24), some (some 25), some (some 26), some (some 27), some (some 28)]) := rfl
theorem w_24 {L : Nat} {ps : List (Option (Option Nat))} {rest : List mj_K} : (w_sh L ps rest)[24]? = some (0, 640, []) := rfl
theorem w_25 {L : Nat} {ps : List (Option (Option Nat))} {rest : List mj_K} : (w_sh L ps rest)[25]? = some (0, 80, []) := rfl
theorem w_26 {L : Nat} {ps : List (Option (Option Nat))} {rest : List mj_K} : (w_sh L ps rest)[26]? = some (0, 10, []) := rfl
theorem w_27 {L : Nat} {ps : List (Option (Option Nat))} {rest : List mj_K} : (w_sh L ps rest)[27]? = some (0, 4, []) := rfl
theorem w_28 {L : Nat} {ps : List (Option (Option Nat))} {rest : List mj_K} : (w_sh L ps rest)[28]? = some (0, 4, []) := rfl
theorem w_29 {L : Nat} {ps : List (Option (Option Nat))} {rest : List mj_K} : (w_sh L ps rest)[29]? = some (5, 10, [none, none, none, none, none, some (some 30), some (some 31), some (some 32), some (some 33), some (some 34)]) := rfl
theorem w_30 {L : Nat} {ps : List (Option (Option Nat))} {rest : List mj_K} : (w_sh L ps rest)[30]? = some (0, 640, []) := rfl
theorem w_31 {L : Nat} {ps : List (Option (Option Nat))} {rest : List mj_K} : (w_sh L ps rest)[31]? = some (0, 80, []) := rfl
theorem w_32 {L : Nat} {ps : List (Option (Option Nat))} {rest : List mj_K} : (w_sh L ps rest)[32]? = some (0, 10, []) := rfl
theorem w_33 {L : Nat} {ps : List (Option (Option Nat))} {rest : List mj_K} : (w_sh L ps rest)[33]? = some (0, 4, []) := rfl
theorem w_34 {L : Nat} {ps : List (Option (Option Nat))} {rest : List mj_K} : (w_sh L ps rest)[34]? = some (0, 4, []) := rfl
theorem w_35 {L : Nat} {ps : List (Option (Option Nat))} {rest : List mj_K} : (w_sh L ps rest)[35]? = some (5, 10, [none, none, none, none, none, some (some 36), some (some 37), some (some 38), some (some 39), some (some 40)]) := rfl
theorem w_36 {L : Nat} {ps : List (Option (Option Nat))} {rest : List mj_K} : (w_sh L ps rest)[36]? = some (0, 640, []) := rfl
theorem w_37 {L : Nat} {ps : List (Option (Option Nat))} {rest : List mj_K} : (w_sh L ps rest)[37]? = some (0, 80, []) := rfl
theorem w_38 {L : Nat} {ps : List (Option (Option Nat))} {rest : List mj_K} : (w_sh L ps rest)[38]? = some (0, 10, []) := rfl
theorem w_39 {L : Nat} {ps : List (Option (Option Nat))} {rest : List mj_K} : (w_sh L ps rest)[39]? = some (0, 4, []) := rfl
theorem w_40 {L : Nat} {ps : List (Option (Option Nat))} {rest : List mj_K} : (w_sh L ps rest)[40]? = some (0, 4, []) := rfl
theorem w_41 {L : Nat} {ps : List (Option (Option Nat))} {rest : List mj_K} : (w_sh L ps rest)[41]? = some (5, 10, [none, none, none, none, none, some (some 42), some (some 43), some (some 44), some (some 45), some (some 46)]) := rfl
theorem w_42 {L : Nat} {ps : List (Option (Option Nat))} {rest : List mj_K} : (w_sh L ps rest)[42]? = some (0, 640, []) := rfl
theorem w_43 {L : Nat} {ps : List (Option (Option Nat))} {rest : List mj_K} : (w_sh L ps rest)[43]? = some (0, 80, []) := rfl
theorem w_44 {L : Nat} {ps : List (Option (Option Nat))} {rest : List mj_K} : (w_sh L ps rest)[44]? = some (0, 10, []) := rfl
theorem w_45 {L : Nat} {ps : List (Option (Option Nat))} {rest : List mj_K} : (w_sh L ps rest)[45]? = some (0, 4, []) := rfl
theorem w_46 {L : Nat} {ps : List (Option (Option Nat))} {rest : List mj_K} : (w_sh L ps rest)[46]? = some (0, 4, []) := rfl
theorem w_47 {L : Nat} {ps : List (Option (Option Nat))} {rest : List mj_K} : (w_sh L ps rest)[47]? = some (3, 5, [none, none, some (some 48), none, none]) := rfl
theorem w_48 {L : Nat} {ps : List (Option (Option Nat))} {rest : List mj_K} : (w_sh L ps rest)[48]? = some (0, 8, []) := rfl
theorem w_49 {L : Nat} {ps : List (Option (Option Nat))} {rest : List mj_K} : (w_sh L ps rest)[49]? = some (0, 8, []) := rfl
theorem w_50 {L : Nat} {ps : List (Option (Option Nat))} {rest : List mj_K} : (w_sh L ps rest)[50]? = some (0, 8, []) := rfl
theorem w_51 {L : Nat} {ps : List (Option (Option Nat))} {rest : List mj_K} : (w_sh L ps rest)[51]? = some (1, 80, []) := rfl
