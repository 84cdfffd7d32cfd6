/-! A TURN: words are changed -/
theorem r_add {v : Nat} {x : Int32} (hv : v < 65536) (h1 : (-65535) ≤ x) (h2 : x ≤ nI 65535) : ((((nI v + x) - (nI v + x) / nI 65536 * nI 65536) + nI 65536) - (((nI v + x) - (nI v + x) / nI 65536 * nI 65536) + nI 65536) / nI 65536 * nI 65536) = (nI v + x) &&& nI 65535 := by
  have big : ∀ n, n ≤ 200000 → (((nI n - nI n / nI 65536 * nI 65536) + nI 65536) - ((nI n - nI n / nI 65536 * nI 65536) + nI 65536) / nI 65536 * nI 65536) = nI n &&& nI 65535 := by
    intro n hn
    rw [pk_rem (by omega) (by omega) (by omega), nI_add, pk_rem (by omega) (by omega) (by omega), pk_andN (by omega) 16 (by decide)]
    rw [show (n % 65536 + 65536) % 65536 = n % 2 ^ 16 by omega]
  by_cases q : nI 0 ≤ x
  · obtain ⟨n, hn, rfl⟩ := nI_of2 (n := 65535) (M := nI 65535) (by decide) (by rw [← nI_0]; exact Int32.not_lt.mpr q) h2
    rw [nI_add]
    exact big _ (by omega)
  · obtain ⟨m, hm1, hm2, rfl⟩ := s_neg h1 q
    have e : nI v + (nI 0 - nI m) = nI v - nI m := by
      rw [Int32.sub_eq_add_neg, nI_0, Int32.zero_add, ← Int32.sub_eq_add_neg]
    rw [e]
    by_cases q2 : m ≤ v
    · rw [pk_sub q2]
      exact big _ (by omega)
    · have ti : (nI v - nI m).toInt = (v : Int) - m := pk_sub_toInt (by omega) (by omega)
      have hd : (nI v - nI m) / nI 65536 = nI 0 := by
        apply Int32.toInt_inj.mp
        rw [Int32.toInt_div, ti, show (nI 65536).toInt = 65536 from rfl, show (nI 0).toInt = 0 from rfl, show ((v : Int) - m) = -((m : Int) - v) by omega, Int.neg_tdiv, Int.tdiv_eq_zero_of_lt (by omega) (by omega)]
        rfl
      have hr : (nI v - nI m) - (nI v - nI m) / nI 65536 * nI 65536 = nI v - nI m := by
        rw [hd, nI_0, Int32.zero_mul, Int32.sub_zero]
      have hs : nI v - nI m + nI 65536 = nI (v + 65536 - m) := by
        rw [s_sub_add, nI_add, pk_sub (by omega)]
      have ha : (nI v - nI m) &&& nI 65535 = nI (v + 65536 - m) := by
        have a1 := pk_and (nI v - nI m) (m := nI 65535) 16 (by decide)
        have a2 := pk_and (nI v - nI m + nI 65536) (m := nI 65535) 16 (by decide)
        have a3 := pk_andN (n := v + 65536 - m) (by omega) (m := nI 65535) 16 (by decide)
        have a4 : (nI v - nI m + nI 65536).toBitVec.toNat % 2 ^ 16 = (nI v - nI m).toBitVec.toNat % 2 ^ 16 := by
          rw [Int32.toBitVec_add, BitVec.toNat_add, show (nI 65536).toBitVec.toNat = 65536 from rfl]
          omega
        rw [a1, ← a4, ← a2, hs, a3, Nat.mod_eq_of_lt (by omega)]
      rw [hr, hs, pk_rem (by omega) (by omega) (by omega), ha, Nat.mod_eq_of_lt (by omega)]
/-- the words that the line is to have -/
def p_f (g : Nat → Int32) (p l w vv fr : Nat) (nb : Int32) : Nat → Nat → Int32
  | 0 => s_w1 g p l w (nI vv)
  | 1 => fun _ => nI vv
  | 2 => s_wa g p l nb
  | _ => s_wd g p fr
section TX
variable {L n m t p l w vv fr did : Nat} {nb x21 x22 : Int32} {ps : List (Option (Option Nat))} {c : mj_C} {g : Nat → Int32} {R : Nat} {h : Nat → Nat → Int32} {x8 x9 x10 x11 x12 x13 x15 x16 : Int32} {o17 o18 o19 o20 o21 o22 o23 o24 o25 o26 o27 : Option Value}
theorem p_f_ok (hp : p < 3) (hl : l < 8) (hfr : fr < 8) (hv : vv < 65536) (hok : s_ok g) (did : Nat) : ∀ k, k < 8 → ∃ z, z < 65536 ∧ p_f g p l w vv fr nb did k = nI z := by
  match did with
  | 0 => exact s_ok_w1 (by omega) hl hok hv
  | 1 => exact fun _ _ => ⟨vv, hv, rfl⟩
  | 2 => exact s_ok_wa
  | _ + 3 => exact s_ok_wd (by omega) hfr hok
theorem t_old (hp : p < 3) (hl : l < 8) : ∀ (j k : Nat) (c : mj_C), k + j = 8 → ∃ c', mj_EV 103 599 [some (.ref 0), some (.ref 2), some (.ref 52), some (.ref 53), some (.ref 54), some (.ref 55), some (.ref 56), some (.int (nI t)), some (.int x8), some (.int x9), some (.int x10), some (.int (nI p)), some (.int (nI l)), some (.int (nI w)), some (.ref (53 + p)), some (.int x15), some (.int (s_sum g 10)), some (.int (nI vv)), some (.int nb), some (.int (nI fr)), some (.int (nI did)), some (.int x21), some (.int (nI k)), o23, o24, o25, o26, o27] [] (w_sh L ps (w_lo n)) c = mj_EV 103 599 [some (.ref 0), some (.ref 2), some (.ref 52), some (.ref 53), some (.ref 54), some (.ref 55), some (.ref 56), some (.int (nI t)), some (.int x8), some (.int x9), some (.int x10), some (.int (nI p)), some (.int (nI l)), some (.int (nI w)), some (.ref (53 + p)), some (.int x15), some (.int (s_sum g 10)), some (.int (nI vv)), some (.int nb), some (.int (nI fr)), some (.int (nI did)), some (.int x21), some (.int (nI 8)), o23, o24, o25, o26, o27] [] (w_sh L ps (w_lo n)) c' ∧ (∀ b, b ≠ 56 → c' b = c b) ∧ ∀ i, c' 56 i = if k ≤ i ∧ i < 8 then c (53 + p) (8 * l + i) else c 56 i := by
  intro j
  induction j with
  | zero =>
    intro k c hk
    have hk : k = 8 := hk
    subst hk
    exact ⟨c, rfl, fun _ _ => rfl, fun i => by rw [if_neg (by omega)]⟩
  | succ j ih =>
    intro k c hk
    obtain ⟨c', h1, h2, h3⟩ := ih (k + 1) (mj_u c 56 k (c (53 + p) (8 * l + k))) (by omega)
    refine ⟨c', ?_, fun b hb => by rw [h2 b hb, mj_u_ne _ _ _ _ hb], fun i => ?_⟩
    · rw [e103_599 (w_5p hp), if_neg (nI_ge (by omega) (by omega)), pk_mul, nI_add, if_pos (z_i (by omega) (by omega)), if_pos (z_i (by omega) (by omega)), nI_clamp (by omega), nI_clamp (by omega), nI_add]
      exact h1
    · rw [h3 i, mj_u_self, mj_u_ne _ _ _ _ (by omega)]
      by_cases q : i = k
      · subst q
        rw [if_neg (by omega), if_pos (by omega), s_upd_eq]
      · rw [s_upd_ne q]
        by_cases q2 : k + 1 ≤ i ∧ i < 8
        · rw [if_pos q2, if_pos (by omega)]
        · rw [if_neg q2, if_neg (by omega)]
theorem t_wsQ {k : Nat} (hp : p < 3) (hl : l < 8) (hw : w < 8) (hfr : fr < 8) (hd : did < 4) (h1 : (-65535) ≤ nb) (h2 : nb ≤ nI 65535) (hok : s_ok g) (hk : k < 8) (h56 : c 56 k = s_wd g p l k) (hc : c (53 + p) (8 * fr + k) = s_wd g p fr k) : mj_EV 103 631 [some (.ref 0), some (.ref 2), some (.ref 52), some (.ref 53), some (.ref 54), some (.ref 55), some (.ref 56), some (.int (nI t)), some (.int x8), some (.int x9), some (.int x10), some (.int (nI p)), some (.int (nI l)), some (.int (nI w)), some (.ref (53 + p)), some (.int (nI 1)), some (.int (s_sum g 10)), some (.int (nI vv)), some (.int nb), some (.int (nI fr)), some (.int (nI did)), some (.int x21), some (.int (nI k)), o23, o24, o25, o26, o27] [] (w_sh L ps (w_lo n)) c = mj_EV 103 631 [some (.ref 0), some (.ref 2), some (.ref 52), some (.ref 53), some (.ref 54), some (.ref 55), some (.ref 56), some (.int (nI t)), some (.int x8), some (.int x9), some (.int x10), some (.int (nI p)), some (.int (nI l)), some (.int (nI w)), some (.ref (53 + p)), some (.int (nI 1)), some (.int (s_sum g 10)), some (.int (nI vv)), some (.int nb), some (.int (nI fr)), some (.int (nI did)), some (.int x21), some (.int (nI (k + 1))), some (.int (c 56 k)), o24, o25, o26, o27] [] (w_sh L ps (w_lo n)) (mj_u c (53 + p) (8 * l + k) ((p_f g p l w vv fr nb did) k)) := by
  have d0 : (!decide (nI 65536 = nI 0)) = true := by decide
  rw [e103_631 (w_5p hp), if_neg (nI_ge (by omega) (by omega)), if_neg (by decide), pk_mul, nI_add, nI_clamp (by omega), nI_clamp (by omega), if_pos (z_i (by omega) (by omega))]
  match did, hd with
  | 0, _ =>
    rw [if_pos rfl]
    by_cases q : k = w
    · subst q
      rw [if_pos rfl, if_pos (z_i (by omega) (by omega)), nI_add, show p_f g p l k vv fr nb 0 k = nI vv from s_upd_eq]
    · rw [if_neg (n_ne q (by omega) (by omega)), if_pos (z_i (by omega) (by omega)), nI_add, show p_f g p l w vv fr nb 0 k = s_wd g p l k from s_upd_ne q, h56]
  | 1, _ => rw [if_neg (by decide), if_pos rfl, if_pos (z_i (by omega) (by omega)), nI_add]; rfl
  | 2, _ =>
    obtain ⟨v, hv, ev⟩ := s_ok_wd (P := p) (l := l) (by omega) hl hok k hk
    rw [if_neg (by decide), if_neg (by decide), if_pos rfl, if_pos d0, if_pos d0, if_pos (z_i (by omega) (by omega)), nI_add, show p_f g p l w vv fr nb 2 k = (s_wd g p l k + nb) &&& nI 65535 from rfl, h56, ev, r_add hv h1 h2]
  | 3, _ => rw [if_neg (by decide), if_neg (by decide), if_neg (by decide), pk_mul, nI_add, if_pos (z_i (by omega) (by omega)), if_pos (z_i (by omega) (by omega)), nI_clamp (by omega), nI_add, hc]; rfl
  | d + 4, hd => omega
theorem t_wl (hp : p < 3) (hl : l < 8) (hw : w < 8) (hfr : fr < 8) (hd : did < 4) (h1 : (-65535) ≤ nb) (h2 : nb ≤ nI 65535) (hok : s_ok g) : ∀ (j k : Nat) (c : mj_C) (o23 : Option Value), k + j = 8 → (∀ i, i < 8 → c 56 i = s_wd g p l i) → (∀ i, k ≤ i → i < 8 → c (53 + p) (8 * fr + i) = s_wd g p fr i) → ∃ c' o, mj_EV 103 631 [some (.ref 0), some (.ref 2), some (.ref 52), some (.ref 53), some (.ref 54), some (.ref 55), some (.ref 56), some (.int (nI t)), some (.int x8), some (.int x9), some (.int x10), some (.int (nI p)), some (.int (nI l)), some (.int (nI w)), some (.ref (53 + p)), some (.int (nI 1)), some (.int (s_sum g 10)), some (.int (nI vv)), some (.int nb), some (.int (nI fr)), some (.int (nI did)), some (.int x21), some (.int (nI k)), o23, o24, o25, o26, o27] [] (w_sh L ps (w_lo n)) c = mj_EV 103 631 [some (.ref 0), some (.ref 2), some (.ref 52), some (.ref 53), some (.ref 54), some (.ref 55), some (.ref 56), some (.int (nI t)), some (.int x8), some (.int x9), some (.int x10), some (.int (nI p)), some (.int (nI l)), some (.int (nI w)), some (.ref (53 + p)), some (.int (nI 1)), some (.int (s_sum g 10)), some (.int (nI vv)), some (.int nb), some (.int (nI fr)), some (.int (nI did)), some (.int x21), some (.int (nI 8)), o, o24, o25, o26, o27] [] (w_sh L ps (w_lo n)) c' ∧ (∀ b, b ≠ 53 + p → c' b = c b) ∧ ∀ i, c' (53 + p) i = if 8 * l + k ≤ i ∧ i < 8 * l + 8 then (p_f g p l w vv fr nb did) (i - 8 * l) else c (53 + p) i := by
  intro j
  induction j with
  | zero =>
    intro k c o23 hk h56 hc
    have hk : k = 8 := hk
    subst hk
    exact ⟨c, o23, rfl, fun _ _ => rfl, fun i => by rw [if_neg (by omega)]⟩
  | succ j ih =>
    intro k c o23 hk h56 hc
    have hs := t_wsQ (L := L) (n := n) (t := t) (vv := vv) (ps := ps) (x8 := x8) (x9 := x9) (x10 := x10) (x21 := x21) (o23 := o23) (o24 := o24) (o25 := o25) (o26 := o26) (o27 := o27) hp hl hw hfr hd h1 h2 hok (by omega : k < 8) (h56 k (by omega)) (hc k (by omega) (by omega))
    obtain ⟨c', o, e, k2, k3⟩ := ih (k + 1) (mj_u c (53 + p) (8 * l + k) ((p_f g p l w vv fr nb did) k)) (some (.int (c 56 k))) (by omega) (fun i hi => by rw [mj_u_ne _ _ _ _ (by omega)]; exact h56 i hi) (fun i hi hi8 => by
      rw [mj_u_self, s_upd_ne (by omega)]
      exact hc i (by omega) hi8)
    refine ⟨c', o, hs.trans e, fun b hb => by rw [k2 b hb, mj_u_ne _ _ _ _ hb], fun i => ?_⟩
    rw [k3 i, mj_u_self]
    by_cases q : i = 8 * l + k
    · subst q
      rw [if_neg (by omega), if_pos (by omega), s_upd_eq]
      congr 1
      omega
    · rw [s_upd_ne q]
      by_cases q2 : 8 * l + (k + 1) ≤ i ∧ i < 8 * l + 8
      · rw [if_pos q2, if_pos (by omega)]
      · rw [if_neg q2, if_neg (by omega)]
theorem t_res {x23 x24 x25 x26 : Int32} (hp : p < 3) (hl : l < 8) : ∀ (j k : Nat) (c : mj_C), k + j = 8 → ∃ c', mj_EV 103 1003 [some (.ref 0), some (.ref 2), some (.ref 52), some (.ref 53), some (.ref 54), some (.ref 55), some (.ref 56), some (.int (nI t)), some (.int x8), some (.int x9), some (.int x10), some (.int (nI p)), some (.int (nI l)), some (.int (nI w)), some (.ref (53 + p)), some (.int x15), some (.int (s_sum g 10)), some (.int (nI vv)), some (.int nb), some (.int (nI fr)), some (.int (nI did)), some (.int x21), some (.int x22), some (.int x23), some (.int x24), some (.int x25), some (.int x26), some (.int (nI k))] [] (w_sh L ps (w_lo n)) c = mj_EV 103 1003 [some (.ref 0), some (.ref 2), some (.ref 52), some (.ref 53), some (.ref 54), some (.ref 55), some (.ref 56), some (.int (nI t)), some (.int x8), some (.int x9), some (.int x10), some (.int (nI p)), some (.int (nI l)), some (.int (nI w)), some (.ref (53 + p)), some (.int x15), some (.int (s_sum g 10)), some (.int (nI vv)), some (.int nb), some (.int (nI fr)), some (.int (nI did)), some (.int x21), some (.int x22), some (.int x23), some (.int x24), some (.int x25), some (.int x26), some (.int (nI 8))] [] (w_sh L ps (w_lo n)) c' ∧ (∀ b, b ≠ 53 + p → c' b = c b) ∧ ∀ i, c' (53 + p) i = if 8 * l + k ≤ i ∧ i < 8 * l + 8 then c 56 (i - 8 * l) else c (53 + p) i := by
  intro j
  induction j with
  | zero =>
    intro k c hk
    have hk : k = 8 := hk
    subst hk
    exact ⟨c, rfl, fun _ _ => rfl, fun i => by rw [if_neg (by omega)]⟩
  | succ j ih =>
    intro k c hk
    obtain ⟨c', h1, h2, h3⟩ := ih (k + 1) (mj_u c (53 + p) (8 * l + k) (c 56 k)) (by omega)
    refine ⟨c', ?_, fun b hb => by rw [h2 b hb, mj_u_ne _ _ _ _ hb], fun i => ?_⟩
    · rw [e103_1003 (w_5p hp), if_neg (nI_ge (by omega) (by omega)), pk_mul, nI_add, if_pos (z_i (by omega) (by omega)), if_pos (z_i (by omega) (by omega)), nI_clamp (by omega), nI_clamp (by omega), nI_add]
      exact h1
    · rw [h3 i, mj_u_self, mj_u_ne _ _ _ _ (by omega)]
      by_cases q : i = 8 * l + k
      · subst q
        rw [if_neg (by omega), if_pos (by omega), s_upd_eq]
        congr 1
        omega
      · rw [s_upd_ne q]
        by_cases q2 : 8 * l + (k + 1) ≤ i ∧ i < 8 * l + 8
        · rw [if_pos q2, if_pos (by omega)]
        · rw [if_neg q2, if_neg (by omega)]
theorem t_cls {x23 x24 due : Int32} (hp : p < 3) (hl : l < 8) (hw : w < 8) (hv : vv < 65536) (hfr : fr < 8) (hd : did < 4) (h1 : (-65535) ≤ nb) (h2 : nb ≤ nI 65535) (hI : s_I ps c g R h) (hg : g (6 + 2 * p) = nI 1) : ∃ A : Option mj_R, s_cc L (w_lo n) ps c A g R h (s_may g (s_sum (s_putk g p l (p_f g p l w vv fr nb did)) 10) = nI 0) (s_F (s_putk g p l (p_f g p l w vv fr nb did)) p l) (s_putk g p l (p_f g p l w vv fr nb did)) ∧ ∀ x ps' c', A = some (some (.int x), w_sh L ps' (w_lo n), c') → mj_EV 103 884 [some (.ref 0), some (.ref 2), some (.ref 52), some (.ref 53), some (.ref 54), some (.ref 55), some (.ref 56), some (.int (nI t)), some (.int x8), some (.int x9), some (.int x10), some (.int (nI p)), some (.int (nI l)), some (.int (nI w)), some (.ref (53 + p)), some (.int x15), some (.int (s_sum g 10)), some (.int (nI vv)), some (.int nb), some (.int (nI fr)), some (.int (nI did)), some (.int x21), some (.int x22), some (.int x23), some (.int x24), o25, o26, o27] [.int due] (w_sh L ps (w_lo n)) c = mj_EV 103 956 [some (.ref 0), some (.ref 2), some (.ref 52), some (.ref 53), some (.ref 54), some (.ref 55), some (.ref 56), some (.int (nI t)), some (.int x8), some (.int x9), some (.int x10), some (.int (nI p)), some (.int (nI l)), some (.int (nI w)), some (.ref (53 + p)), some (.int x15), some (.int (s_sum g 10)), some (.int (nI vv)), some (.int nb), some (.int (nI fr)), some (.int (nI did)), some (.int x21), some (.int x22), some (.int x23), some (.int x24), some (.int due), o26, o27] [.int x] (w_sh L ps' (w_lo n)) c' := by
  match did, hd with
  | 0, _ => exact ⟨_, k_write (L := L) (rest := w_lo n) (by omega : p < 10) hl hw hv hI hg, fun x ps' c' e => by rw [e103_884 (w_5p hp), if_pos rfl, e, mj_then_i, e103_903 (w_5p hp)]⟩
  | 1, _ => exact ⟨_, k_fill (L := L) (rest := w_lo n) (by omega : p < 10) hl hv hI hg, fun x ps' c' e => by rw [e103_884 (w_5p hp), if_neg (by decide), if_pos rfl, e, mj_then_i, e103_922 (w_5p hp)]⟩
  | 2, _ => exact ⟨_, k_add (L := L) (rest := w_lo n) (by omega : p < 10) hl h1 h2 hI hg, fun x ps' c' e => by rw [e103_884 (w_5p hp), if_neg (by decide), if_neg (by decide), if_pos rfl, e, mj_then_i, e103_941 (w_5p hp)]⟩
  | 3, _ => exact ⟨_, k_copy (L := L) (rest := w_lo n) (by omega : p < 10) hfr hg (by omega : p < 10) hl hg hI, fun x ps' c' e => by rw [e103_884 (w_5p hp), if_neg (by decide), if_neg (by decide), if_neg (by decide), e, mj_then_i]⟩
  | d + 4, hd => omega
theorem t_cls0 {x23 x24 due : Int32} (hp : p < 3) (hd : did < 4) (hI : s_I ps c g R h) (hg : g (6 + 2 * p) = nI 0) : ∃ A : Option mj_R, A = some (some (.int (-1)), w_sh L ps (w_lo n), c) ∧ ∀ x ps' c', A = some (some (.int x), w_sh L ps' (w_lo n), c') → mj_EV 103 884 [some (.ref 0), some (.ref 2), some (.ref 52), some (.ref 53), some (.ref 54), some (.ref 55), some (.ref 56), some (.int (nI t)), some (.int x8), some (.int x9), some (.int x10), some (.int (nI p)), some (.int (nI l)), some (.int (nI w)), some (.ref (53 + p)), some (.int x15), some (.int (s_sum g 10)), some (.int (nI vv)), some (.int nb), some (.int (nI fr)), some (.int (nI did)), some (.int x21), some (.int x22), some (.int x23), some (.int x24), o25, o26, o27] [.int due] (w_sh L ps (w_lo n)) c = mj_EV 103 956 [some (.ref 0), some (.ref 2), some (.ref 52), some (.ref 53), some (.ref 54), some (.ref 55), some (.ref 56), some (.int (nI t)), some (.int x8), some (.int x9), some (.int x10), some (.int (nI p)), some (.int (nI l)), some (.int (nI w)), some (.ref (53 + p)), some (.int x15), some (.int (s_sum g 10)), some (.int (nI vv)), some (.int nb), some (.int (nI fr)), some (.int (nI did)), some (.int x21), some (.int x22), some (.int x23), some (.int x24), some (.int due), o26, o27] [.int x] (w_sh L ps' (w_lo n)) c' := by
  match did, hd with
  | 0, _ => exact ⟨mj_EV 48 0 [some (.ref 2), some (.int (nI p)), some (.int (nI l)), some (.int (nI w)), some (.int (nI vv))] [] (w_sh L ps (w_lo n)) c, by rw [e48_0, k_hasLine_n hI.2.1 (s_nli hp hg), mj_then_i, e48_9, if_pos rfl], fun x ps' c' e => by rw [e103_884 (w_5p hp), if_pos rfl, e, mj_then_i, e103_903 (w_5p hp)]⟩
  | 1, _ => exact ⟨mj_EV 49 0 [some (.ref 2), some (.int (nI p)), some (.int (nI l)), some (.int (nI vv))] [] (w_sh L ps (w_lo n)) c, by rw [e49_0, k_hasLine_n hI.2.1 (s_nli hp hg), mj_then_i, e49_9, if_pos rfl], fun x ps' c' e => by rw [e103_884 (w_5p hp), if_neg (by decide), if_pos rfl, e, mj_then_i, e103_922 (w_5p hp)]⟩
  | 2, _ => exact ⟨mj_EV 51 0 [some (.ref 2), some (.int (nI p)), some (.int (nI l)), some (.int nb), none] [] (w_sh L ps (w_lo n)) c, by rw [e51_0, k_hasLine_n hI.2.1 (s_nli hp hg), mj_then_i, e51_9, if_pos rfl], fun x ps' c' e => by rw [e103_884 (w_5p hp), if_neg (by decide), if_neg (by decide), if_pos rfl, e, mj_then_i, e103_941 (w_5p hp)]⟩
  | 3, _ => exact ⟨mj_EV 52 0 [some (.ref 2), some (.int (nI p)), some (.int (nI fr)), some (.int (nI p)), some (.int (nI l))] [] (w_sh L ps (w_lo n)) c, by rw [e52_0, k_hasLine_n hI.2.1 (s_nli hp hg), mj_then_i, e52_9, if_pos rfl], fun x ps' c' e => by rw [e103_884 (w_5p hp), if_neg (by decide), if_neg (by decide), if_neg (by decide), e, mj_then_i]⟩
  | d + 4, hd => omega
theorem s_LP_put {q : Nat → Int32} {W W' : Nat → Nat → Int32} {f : Nat → Int32} (hP : s_LP q W g) (hp : p < 3) (hl : l < 8) (h1 : ∀ k, k < 3 → k ≠ p → W' k = W k) (h2 : ∀ j, j < 64 → W' p j = if 8 * l ≤ j ∧ j < 8 * l + 8 then f (j - 8 * l) else W p j) : s_LP q W' (s_put g p l f 8) := by
  refine ⟨fun k hk => ?_, fun k h3 hk => ?_, fun k hk j hj => ?_⟩
  · rw [s_put_lo (by omega), s_put_lo (by omega)]
    exact hP.1 k hk
  · rw [s_put_lo (by omega)]
    exact hP.2.1 k h3 hk
  · unfold s_put
    by_cases k1 : k = p
    · subst k1
      rw [h2 j hj]
      by_cases q : 8 * l ≤ j ∧ j < 8 * l + 8
      · rw [if_pos q, if_pos (by omega)]
        congr 1
        omega
      · rw [if_neg q, if_neg (by omega)]
        exact hP.2.2 k hk j hj
    · rw [h1 k hk k1, if_neg (by omega)]
      exact hP.2.2 k hk j hj
end TX
