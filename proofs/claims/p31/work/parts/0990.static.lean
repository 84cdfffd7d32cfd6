theorem mj_chunk {α : Type} {p : α → Bool} {L : List α} (k n : Nat) (h1 : ((L.drop k).take n).all p = true) (h2 : (L.drop (k + n)).all p = true) : (L.drop k).all p = true := by
  have h : (((L.drop k).take n) ++ ((L.drop k).drop n)).all p = true := by
    rw [List.all_append, h1, List.drop_drop, h2]
    rfl
  rwa [List.take_append_drop] at h
theorem mj_k102 : mj_c102.all (mj_chk mj_y102) = true := (mj_chunk 0 36 mj_k102_0 (mj_chunk 36 36 mj_k102_1 (mj_chunk 72 36 mj_k102_2 (mj_chunk 108 36 mj_k102_3 (mj_chunk 144 36 mj_k102_4 (mj_chunk 180 36 mj_k102_5 (mj_chunk 216 36 mj_k102_6 (mj_chunk 252 36 mj_k102_7 (mj_chunk 288 36 mj_k102_8 (mj_chunk 324 36 mj_k102_9 (mj_chunk 360 34 mj_k102_10 (by decide +kernel : (mj_c102.drop 394).all (mj_chk mj_y102) = true))))))))))))
theorem mj_k103 : mj_c103.all (mj_chk mj_y103) = true := (mj_chunk 0 36 mj_k103_0 (mj_chunk 36 36 mj_k103_1 (mj_chunk 72 36 mj_k103_2 (mj_chunk 108 36 mj_k103_3 (mj_chunk 144 36 mj_k103_4 (mj_chunk 180 36 mj_k103_5 (mj_chunk 216 36 mj_k103_6 (mj_chunk 252 36 mj_k103_7 (mj_chunk 288 36 mj_k103_8 (mj_chunk 324 36 mj_k103_9 (mj_chunk 360 36 mj_k103_10 (mj_chunk 396 36 mj_k103_11 (mj_chunk 432 36 mj_k103_12 (mj_chunk 468 36 mj_k103_13 (mj_chunk 504 36 mj_k103_14 (mj_chunk 540 36 mj_k103_15 (mj_chunk 576 36 mj_k103_16 (mj_chunk 612 36 mj_k103_17 (mj_chunk 648 36 mj_k103_18 (mj_chunk 684 36 mj_k103_19 (mj_chunk 720 36 mj_k103_20 (mj_chunk 756 36 mj_k103_21 (mj_chunk 792 36 mj_k103_22 (mj_chunk 828 36 mj_k103_23 (mj_chunk 864 36 mj_k103_24 (mj_chunk 900 10 mj_k103_25 (mj_chunk 910 1 mj_k103_26 (mj_chunk 911 7 mj_k103_27 (by decide +kernel : (mj_c103.drop 918).all (mj_chk mj_y103) = true)))))))))))))))))))))))))))))
theorem mj_yL_len : mj_yL.length = 104 := by decide +kernel
theorem mj_kall : ∀ (y : Nat) (Y : mj_Y), mj_yL[y]? = some Y → (mj_cd y).all (mj_chk Y) = true := by
  intro y Y h
  match y, h with
  | 0, h => cases h; exact mj_k0
  | 1, h => cases h; exact mj_k1
  | 2, h => cases h; exact mj_k2
  | 3, h => cases h; exact mj_k3
  | 4, h => cases h; exact mj_k4
  | 5, h => cases h; exact mj_k5
  | 6, h => cases h; exact mj_k6
  | 7, h => cases h; exact mj_k7
  | 8, h => cases h; exact mj_k8
  | 9, h => cases h; exact mj_k9
  | 10, h => cases h; exact mj_k10
  | 11, h => cases h; exact mj_k11
  | 12, h => cases h; exact mj_k12
  | 13, h => cases h; exact mj_k13
  | 14, h => cases h; exact mj_k14
  | 15, h => cases h; exact mj_k15
  | 16, h => cases h; exact mj_k16
  | 17, h => cases h; exact mj_k17
  | 18, h => cases h; exact mj_k18
  | 19, h => cases h; exact mj_k19
  | 20, h => cases h; exact mj_k20
  | 21, h => cases h; exact mj_k21
  | 22, h => cases h; exact mj_k22
  | 23, h => cases h; exact mj_k23
  | 24, h => cases h; exact mj_k24
  | 25, h => cases h; exact mj_k25
  | 26, h => cases h; exact mj_k26
  | 27, h => cases h; exact mj_k27
  | 28, h => cases h; exact mj_k28
  | 29, h => cases h; exact mj_k29
  | 30, h => cases h; exact mj_k30
  | 31, h => cases h; exact mj_k31
  | 32, h => cases h; exact mj_k32
  | 33, h => cases h; exact mj_k33
  | 34, h => cases h; exact mj_k34
  | 35, h => cases h; exact mj_k35
  | 36, h => cases h; exact mj_k36
  | 37, h => cases h; exact mj_k37
  | 38, h => cases h; exact mj_k38
  | 39, h => cases h; exact mj_k39
  | 40, h => cases h; exact mj_k40
  | 41, h => cases h; exact mj_k41
  | 42, h => cases h; exact mj_k42
  | 43, h => cases h; exact mj_k43
  | 44, h => cases h; exact mj_k44
  | 45, h => cases h; exact mj_k45
  | 46, h => cases h; exact mj_k46
  | 47, h => cases h; exact mj_k47
  | 48, h => cases h; exact mj_k48
  | 49, h => cases h; exact mj_k49
  | 50, h => cases h; exact mj_k50
  | 51, h => cases h; exact mj_k51
  | 52, h => cases h; exact mj_k52
  | 53, h => cases h; exact mj_k53
  | 54, h => cases h; exact mj_k54
  | 55, h => cases h; exact mj_k55
  | 56, h => cases h; exact mj_k56
  | 57, h => cases h; exact mj_k57
  | 58, h => cases h; exact mj_k58
  | 59, h => cases h; exact mj_k59
  | 60, h => cases h; exact mj_k60
  | 61, h => cases h; exact mj_k61
  | 62, h => cases h; exact mj_k62
  | 63, h => cases h; exact mj_k63
  | 64, h => cases h; exact mj_k64
  | 65, h => cases h; exact mj_k65
  | 66, h => cases h; exact mj_k66
  | 67, h => cases h; exact mj_k67
  | 68, h => cases h; exact mj_k68
  | 69, h => cases h; exact mj_k69
  | 70, h => cases h; exact mj_k70
  | 71, h => cases h; exact mj_k71
  | 72, h => cases h; exact mj_k72
  | 73, h => cases h; exact mj_k73
  | 74, h => cases h; exact mj_k74
  | 75, h => cases h; exact mj_k75
  | 76, h => cases h; exact mj_k76
  | 77, h => cases h; exact mj_k77
  | 78, h => cases h; exact mj_k78
  | 79, h => cases h; exact mj_k79
  | 80, h => cases h; exact mj_k80
  | 81, h => cases h; exact mj_k81
  | 82, h => cases h; exact mj_k82
  | 83, h => cases h; exact mj_k83
  | 84, h => cases h; exact mj_k84
  | 85, h => cases h; exact mj_k85
  | 86, h => cases h; exact mj_k86
  | 87, h => cases h; exact mj_k87
  | 88, h => cases h; exact mj_k88
  | 89, h => cases h; exact mj_k89
  | 90, h => cases h; exact mj_k90
  | 91, h => cases h; exact mj_k91
  | 92, h => cases h; exact mj_k92
  | 93, h => cases h; exact mj_k93
  | 94, h => cases h; exact mj_k94
  | 95, h => cases h; exact mj_k95
  | 96, h => cases h; exact mj_k96
  | 97, h => cases h; exact mj_k97
  | 98, h => cases h; exact mj_k98
  | 99, h => cases h; exact mj_k99
  | 100, h => cases h; exact mj_k100
  | 101, h => cases h; exact mj_k101
  | 102, h => cases h; exact mj_k102
  | 103, h => cases h; exact mj_k103
  | y + 104, h => exact absurd (List.getElem?_eq_some_iff.mp h).1 (by rw [mj_yL_len]; omega)
theorem mj_krest : ∀ y, y < 104 → (match mj_yL[y]? with
    | some Y => decide (mj_nl y = mj_max Y) && (plainFor (mj_nam Y) && decide (mj_own Y = (mj_nam Y).cls))
    | none => true) = true := by decide +kernel
theorem mj_inTB {ws : List Cond} (ps : List Nat) (hp : ws = ps.filterMap (fun i => lw_tbl[i]?)) (h : ws.all goodWord = true) : ∀ w ∈ ws, w ∈ mj_TB := by
  intro w hw
  have hg := List.all_eq_true.mp h w hw
  rw [hp] at hw
  obtain ⟨i, -, hi⟩ := List.mem_filterMap.mp hw
  exact List.mem_filter.mpr ⟨List.mem_of_getElem? hi, hg⟩
set_option maxRecDepth 100000 in
theorem mj_in0 : ∀ w ∈ u_ws RX0 TX0 5, w ∈ mj_TB := mj_inTB [111, 113, 115, 117, 119] (by decide +kernel) (by decide +kernel)
theorem mj_okc0 : mj_okc 0 (RX0, TX0, 5) := ⟨mj_in0, nmX0, tyX0, tyX0_ok, fun ad j hj => by
  match j, hj with
  | 0, _ => rfl
  | 1, _ => rfl
  | 2, _ => rfl
  | 3, _ => rfl
  | 4, _ => rfl
  | j + 5, hj => exact absurd hj (by simp)⟩
set_option maxRecDepth 100000 in
theorem mj_in1 : ∀ w ∈ u_ws RX1 TX1 2, w ∈ mj_TB := mj_inTB [95, 97] (by decide +kernel) (by decide +kernel)
theorem mj_okc1 : mj_okc 1 (RX1, TX1, 2) := ⟨mj_in1, nmX1, tyX1, tyX1_ok, fun ad j hj => by
  match j, hj with
  | 0, _ => rfl
  | 1, _ => rfl
  | j + 2, hj => exact absurd hj (by simp)⟩
set_option maxRecDepth 100000 in
theorem mj_in2 : ∀ w ∈ u_ws RX2 TX2 10, w ∈ mj_TB := mj_inTB [62, 64, 66, 68, 70, 72, 74, 76, 78, 80] (by decide +kernel) (by decide +kernel)
theorem mj_okc2 : mj_okc 2 (RX2, TX2, 10) := ⟨mj_in2, nmX2, tyX2, tyX2_ok, fun ad j hj => by
  match j, hj with
  | 0, _ => rfl
  | 1, _ => rfl
  | 2, _ => rfl
  | 3, _ => rfl
  | 4, _ => rfl
  | 5, _ => rfl
  | 6, _ => rfl
  | 7, _ => rfl
  | 8, _ => rfl
  | 9, _ => rfl
  | j + 10, hj => exact absurd hj (by simp)⟩
set_option maxRecDepth 100000 in
theorem mj_in3 : ∀ w ∈ u_ws RX3 TX3 7, w ∈ mj_TB := mj_inTB [129, 131, 133, 135, 137, 139, 141] (by decide +kernel) (by decide +kernel)
theorem mj_okc3 : mj_okc 3 (RX3, TX3, 7) := ⟨mj_in3, nmX3, tyX3, tyX3_ok, fun ad j hj => by
  match j, hj with
  | 0, _ => rfl
  | 1, _ => rfl
  | 2, _ => rfl
  | 3, _ => rfl
  | 4, _ => rfl
  | 5, _ => rfl
  | 6, _ => rfl
  | j + 7, hj => exact absurd hj (by simp)⟩
theorem mj_okcs : ∀ (ci : Nat) (q : vw_C), mj_cl[ci]? = some q → mj_okc ci q := by
  intro ci q h
  match ci, h with
  | 0, h => cases h; exact mj_okc0
  | 1, h => cases h; exact mj_okc1
  | 2, h => cases h; exact mj_okc2
  | 3, h => cases h; exact mj_okc3
  | k + 4, h => exact absurd (List.getElem?_eq_some_iff.mp h).1 (by simp)
theorem mj_st : mj_St := by
  refine ⟨fun y Y h => ?_, mj_okcs⟩
  have hy : y < 104 := by
    have := (List.getElem?_eq_some_iff.mp h).1
    rwa [mj_yL_len] at this
  have h1 := mj_krest y hy
  rw [h] at h1
  obtain ⟨h1, h2⟩ := mj_and h1
  obtain ⟨h2, h3⟩ := mj_and h2
  exact ⟨List.all_eq_true.mp (mj_kall y Y h), of_decide_eq_true h1, h2, of_decide_eq_true h3⟩
