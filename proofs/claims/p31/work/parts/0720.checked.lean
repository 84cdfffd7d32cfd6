set_option maxRecDepth 100000 in
theorem mj_k103_23 : ((mj_c103.drop 828).take 36).all (mj_chk mj_y103) = true := by decide +kernel
set_option maxRecDepth 100000 in
theorem mj_k103_24 : ((mj_c103.drop 864).take 36).all (mj_chk mj_y103) = true := by decide +kernel
set_option maxRecDepth 100000 in
theorem mj_k103_25 : ((mj_c103.drop 900).take 10).all (mj_chk mj_y103) = true := by decide +kernel
set_option maxRecDepth 100000 in
theorem mj_wd102 : mj_wd 394 (mj_cod mj_y102) = true := by
  unfold mj_wd
  rw [Bool.and_eq_true, decide_eq_true_eq]
  exact ⟨rfl, by decide +kernel⟩
set_option maxRecDepth 100000 in
theorem mj_k103_26 : ((mj_c103.drop 910).take 1).all (mj_chk mj_y103) = true := by
  have h1 : decide (decode (mj_byt mj_y103) 1687 = .ok (.invokestatic 119, 3)) = true := by decide +kernel
  have h2 : mj_lnk mj_y103 1687 (.invokestatic 119) 3 [0, 102, 6, 392, 393, 17] .null = true := by
    have key : mj_lnk mj_y103 1687 (.invokestatic 119) 3 [0, 102, 6, 392, 393, 17] .null = (Nat.beq 3 3 && ((mj_wd 394 (mj_cod mj_y102) && mj_plain (mj_nam mj_y102)) && (decide ((parseMethodDescriptor (mj_nam mj_y102).desc).map (fun d => d.parameters.length) = some 6) && ((Nat.ble (mj_frs mj_y102 + 1) (mj_frs mj_y103) && Nat.ble (8 + (mj_max mj_y102 + 11) + mj_los mj_y102) (mj_los mj_y103)) && ((mj_wd 392 (.methodLink (mj_own mj_y103) 119 (mj_nam mj_y102)) && mj_wd 393 (.static (mj_nam mj_y102))) && mj_wd 17 (.initialized (mj_nam mj_y102).cls)))))) := rfl
    rw [key, mj_wd102]
    decide +kernel
  show ((decide (decode (mj_byt mj_y103) 1687 = .ok (.invokestatic 119, 3)) && mj_lnk mj_y103 1687 (.invokestatic 119) 3 [0, 102, 6, 392, 393, 17] .null) && true) = true
  rw [h1, h2]
  rfl
set_option maxRecDepth 100000 in
theorem mj_k103_27 : ((mj_c103.drop 911).take 7).all (mj_chk mj_y103) = true := by decide +kernel
