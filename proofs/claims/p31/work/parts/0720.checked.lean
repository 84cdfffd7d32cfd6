set_option maxRecDepth 100000 in
theorem mj_k81_23 : ((mj_c81.drop 828).take 36).all (mj_chk mj_y81) = true := by decide +kernel
set_option maxRecDepth 100000 in
theorem mj_k81_24 : ((mj_c81.drop 864).take 36).all (mj_chk mj_y81) = true := by decide +kernel
set_option maxRecDepth 100000 in
theorem mj_k81_25 : ((mj_c81.drop 900).take 10).all (mj_chk mj_y81) = true := by decide +kernel
set_option maxRecDepth 100000 in
theorem mj_wd80 : mj_wd 394 (mj_cod mj_y80) = true := by
  unfold mj_wd
  rw [Bool.and_eq_true, decide_eq_true_eq]
  exact ⟨rfl, by decide +kernel⟩
set_option maxRecDepth 100000 in
theorem mj_k81_26 : ((mj_c81.drop 910).take 1).all (mj_chk mj_y81) = true := by
  have h1 : decide (decode (mj_byt mj_y81) 1687 = .ok (.invokestatic 119, 3)) = true := by decide +kernel
  have h2 : mj_lnk mj_y81 1687 (.invokestatic 119) 3 [0, 80, 6, 392, 393, 17] .null = true := by
    have key : mj_lnk mj_y81 1687 (.invokestatic 119) 3 [0, 80, 6, 392, 393, 17] .null = (Nat.beq 3 3 && ((mj_wd 394 (mj_cod mj_y80) && mj_plain (mj_nam mj_y80)) && (decide ((parseMethodDescriptor (mj_nam mj_y80).desc).map (fun d => d.parameters.length) = some 6) && ((Nat.ble (mj_frs mj_y80 + 1) (mj_frs mj_y81) && Nat.ble (8 + (mj_max mj_y80 + 11) + mj_los mj_y80) (mj_los mj_y81)) && ((mj_wd 392 (.methodLink (mj_own mj_y81) 119 (mj_nam mj_y80)) && mj_wd 393 (.static (mj_nam mj_y80))) && mj_wd 17 (.initialized (mj_nam mj_y80).cls)))))) := rfl
    rw [key, mj_wd80]
    decide +kernel
  show ((decide (decode (mj_byt mj_y81) 1687 = .ok (.invokestatic 119, 3)) && mj_lnk mj_y81 1687 (.invokestatic 119) 3 [0, 80, 6, 392, 393, 17] .null) && true) = true
  rw [h1, h2]
  rfl
set_option maxRecDepth 100000 in
theorem mj_k81_27 : ((mj_c81.drop 911).take 7).all (mj_chk mj_y81) = true := by decide +kernel
