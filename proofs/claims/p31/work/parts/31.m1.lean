/-! THE REFERENCE's methods: what they answer -/
section MD1
variable {L : Nat} {ps : List (Option (Option Nat))} {c : mj_C}
theorem s_sz_nI {k : Nat} (hk : k < 5) : s_sz (nI k) = w_fs k := by
  unfold s_sz
  rw [nI_clamp (by omega)]
end MD1
