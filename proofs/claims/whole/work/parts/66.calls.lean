/-! THE CALLS OF THE LAW -/
def s_Q (L i : Nat) (c : mj_C) (A : Option mj_R) : Prop := ∃ ps' c', A = mj_EV 167 935 [some (.ref 0), some (.ref 2), some (.ref 52), some (.int (nI i))] [] (w_al L ps') c' ∧ s_V ps' c' ∧ c' 0 = c 0
theorem lg_cmp_self (x : Int64) : lg_cmp x x = nI 0 := by
  unfold lg_cmp
  rw [if_neg (fun h => Int64.lt_irrefl h), if_pos rfl]
  rfl
theorem t_in {L i k : Nat} (hL : L ≤ 2560) (hi : i + 5 ≤ L) (hk : k < 5) : mj_in (nI i + nI k) L = true := by
  rw [nI_add, mj_in_nI (by omega)]
  exact decide_eq_true (by omega)
theorem x_160 {L i : Nat} {ps : List (Option (Option Nat))} {c : mj_C} (hL : L ≤ 2560) (hi : i + 5 ≤ L) (hV : s_V ps c) : s_Q L i c (mj_EV 167 160 [some (.ref 0), some (.ref 2), some (.ref 52), some (.int (nI i))] [] (w_al L ps) c) := by
  obtain ⟨g, R, h, hI, hM, hT⟩ := hV
  obtain ⟨x, ps', c1, c2, eA, eB, hV2, h2, h1⟩ := p_setRoom (L := L) (x := (c 0 (nI i + nI 1).toNatClampNeg)) hI hM hT
  have eA : mj_EV 22 0 [some (.ref 2), some (.int (c 0 (nI i + nI 1).toNatClampNeg)), none, none] [] (w_al L ps) c = some (some (.int x), w_al L ps', c1) := eA
  have eB : mj_EV 123 0 [some (.ref 52), some (.int (c 0 (nI i + nI 1).toNatClampNeg)), none, none, none] [] (w_al L ps') c1 = some (some (.int x), w_al L ps', c2) := eB
  rw [e167_160, if_pos (t_in hL hi (by decide)), eA, mj_then_i, e167_169, h1, if_pos (t_in hL hi (by decide)), eB, mj_then_i, e167_178, if_pos rfl]
  exact ⟨ps', c2, rfl, hV2, h2⟩
theorem x_183 {L i : Nat} {ps : List (Option (Option Nat))} {c : mj_C} (hL : L ≤ 2560) (hi : i + 5 ≤ L) (hV : s_V ps c) : s_Q L i c (mj_EV 167 183 [some (.ref 0), some (.ref 2), some (.ref 52), some (.int (nI i))] [] (w_al L ps) c) := by
  obtain ⟨g, R, h, hI, hM, hT⟩ := hV
  obtain ⟨x, ps', c1, c2, eA, eB, hV2, h2, h1⟩ := p_setBound (L := L) (x := (c 0 (nI i + nI 1).toNatClampNeg)) hI hM hT
  have eA : mj_EV 23 0 [some (.ref 2), some (.int (c 0 (nI i + nI 1).toNatClampNeg)), none] [] (w_al L ps) c = some (some (.int x), w_al L ps', c1) := eA
  have eB : mj_EV 124 0 [some (.ref 52), some (.int (c 0 (nI i + nI 1).toNatClampNeg)), none] [] (w_al L ps') c1 = some (some (.int x), w_al L ps', c2) := eB
  rw [e167_183, if_pos (t_in hL hi (by decide)), eA, mj_then_i, e167_192, h1, if_pos (t_in hL hi (by decide)), eB, mj_then_i, e167_201, if_pos rfl]
  exact ⟨ps', c2, rfl, hV2, h2⟩
theorem x_206 {L i : Nat} {ps : List (Option (Option Nat))} {c : mj_C} (hV : s_V ps c) : s_Q L i c (mj_EV 167 206 [some (.ref 0), some (.ref 2), some (.ref 52), some (.int (nI i))] [] (w_al L ps) c) := by
  obtain ⟨g, R, h, hI, hM, hT⟩ := hV
  obtain ⟨x, ps', c1, c2, eA, eB, hV2, h2, h1⟩ := p_newPage (L := L) hI hM hT
  have eA : mj_EV 29 0 [some (.ref 2), none] [] (w_al L ps) c = some (some (.int x), w_al L ps', c1) := eA
  have eB : mj_EV 125 0 [some (.ref 52), none] [] (w_al L ps') c1 = some (some (.int x), w_al L ps', c2) := eB
  rw [e167_206, eA, mj_then_i, e167_210, eB, mj_then_i, e167_214, if_pos rfl]
  exact ⟨ps', c2, rfl, hV2, h2⟩
theorem x_219 {L i : Nat} {ps : List (Option (Option Nat))} {c : mj_C} (hL : L ≤ 2560) (hi : i + 5 ≤ L) (hV : s_V ps c) : s_Q L i c (mj_EV 167 219 [some (.ref 0), some (.ref 2), some (.ref 52), some (.int (nI i))] [] (w_al L ps) c) := by
  obtain ⟨g, R, h, hI, hM, hT⟩ := hV
  obtain ⟨x, ps', c1, c2, eA, eB, hV2, h2, h1⟩ := p_free (L := L) (x := (c 0 (nI i + nI 1).toNatClampNeg)) hI hM hT
  have eA : mj_EV 31 0 [some (.ref 2), some (.int (c 0 (nI i + nI 1).toNatClampNeg)), none] [] (w_al L ps) c = some (some (.int x), w_al L ps', c1) := eA
  have eB : mj_EV 126 0 [some (.ref 52), some (.int (c 0 (nI i + nI 1).toNatClampNeg)), none, none] [] (w_al L ps') c1 = some (some (.int x), w_al L ps', c2) := eB
  rw [e167_219, if_pos (t_in hL hi (by decide)), eA, mj_then_i, e167_228, h1, if_pos (t_in hL hi (by decide)), eB, mj_then_i, e167_237, if_pos rfl]
  exact ⟨ps', c2, rfl, hV2, h2⟩
theorem x_242 {L i : Nat} {ps : List (Option (Option Nat))} {c : mj_C} (hL : L ≤ 2560) (hi : i + 5 ≤ L) (hV : s_V ps c) : s_Q L i c (mj_EV 167 242 [some (.ref 0), some (.ref 2), some (.ref 52), some (.int (nI i))] [] (w_al L ps) c) := by
  obtain ⟨g, R, h, hI, hM, hT⟩ := hV
  obtain ⟨x, ps', c1, c2, eA, eB, hV2, h2, h1⟩ := p_layAnew (L := L) (x := (c 0 (nI i + nI 1).toNatClampNeg)) hI hM hT
  have eA : mj_EV 32 0 [some (.ref 2), some (.int (c 0 (nI i + nI 1).toNatClampNeg)), none] [] (w_al L ps) c = some (some (.int x), w_al L ps', c1) := eA
  have eB : mj_EV 127 0 [some (.ref 52), some (.int (c 0 (nI i + nI 1).toNatClampNeg)), none] [] (w_al L ps') c1 = some (some (.int x), w_al L ps', c2) := eB
  rw [e167_242, if_pos (t_in hL hi (by decide)), eA, mj_then_i, e167_251, h1, if_pos (t_in hL hi (by decide)), eB, mj_then_i, e167_260, if_pos rfl]
  exact ⟨ps', c2, rfl, hV2, h2⟩
theorem x_265 {L i : Nat} {ps : List (Option (Option Nat))} {c : mj_C} (hV : s_V ps c) : s_Q L i c (mj_EV 167 265 [some (.ref 0), some (.ref 2), some (.ref 52), some (.int (nI i))] [] (w_al L ps) c) := by
  obtain ⟨g, R, h, hI, hM, hT⟩ := hV
  obtain ⟨x, ps', c1, c2, eA, eB, hV2, h2, h1⟩ := p_layAll (L := L) hI hM hT
  have eA : mj_EV 33 0 [some (.ref 2), none, none] [] (w_al L ps) c = some (some (.int x), w_al L ps', c1) := eA
  have eB : mj_EV 129 0 [some (.ref 52), none] [] (w_al L ps') c1 = some (some (.int x), w_al L ps', c2) := eB
  rw [e167_265, eA, mj_then_i, e167_269, eB, mj_then_i, e167_273, if_pos rfl]
  exact ⟨ps', c2, rfl, hV2, h2⟩
theorem x_278 {L i : Nat} {ps : List (Option (Option Nat))} {c : mj_C} (hL : L ≤ 2560) (hi : i + 5 ≤ L) (hV : s_V ps c) : s_Q L i c (mj_EV 167 278 [some (.ref 0), some (.ref 2), some (.ref 52), some (.int (nI i))] [] (w_al L ps) c) := by
  obtain ⟨g, R, h, hI, hM, hT⟩ := hV
  obtain ⟨x, ps', c1, c2, eA, eB, hV2, h2, h1⟩ := p_write (L := L) (x := (c 0 (nI i + nI 1).toNatClampNeg)) (y := (c 0 (nI i + nI 2).toNatClampNeg)) (z := (c 0 (nI i + nI 3).toNatClampNeg)) (w := (c 0 (nI i + nI 4).toNatClampNeg)) hI hM hT
  have eA : mj_EV 48 0 [some (.ref 2), some (.int (c 0 (nI i + nI 1).toNatClampNeg)), some (.int (c 0 (nI i + nI 2).toNatClampNeg)), some (.int (c 0 (nI i + nI 3).toNatClampNeg)), some (.int (c 0 (nI i + nI 4).toNatClampNeg))] [] (w_al L ps) c = some (some (.int x), w_al L ps', c1) := eA
  have eB : mj_EV 131 0 [some (.ref 52), some (.int (c 0 (nI i + nI 1).toNatClampNeg)), some (.int (c 0 (nI i + nI 2).toNatClampNeg)), some (.int (c 0 (nI i + nI 3).toNatClampNeg)), some (.int (c 0 (nI i + nI 4).toNatClampNeg))] [] (w_al L ps') c1 = some (some (.int x), w_al L ps', c2) := eB
  rw [e167_278, if_pos (t_in hL hi (by decide)), if_pos (t_in hL hi (by decide)), if_pos (t_in hL hi (by decide)), if_pos (t_in hL hi (by decide)), eA, mj_then_i, e167_302, h1, if_pos (t_in hL hi (by decide)), if_pos (t_in hL hi (by decide)), if_pos (t_in hL hi (by decide)), if_pos (t_in hL hi (by decide)), eB, mj_then_i, e167_326, if_pos rfl]
  exact ⟨ps', c2, rfl, hV2, h2⟩
theorem x_331 {L i : Nat} {ps : List (Option (Option Nat))} {c : mj_C} (hL : L ≤ 2560) (hi : i + 5 ≤ L) (hV : s_V ps c) : s_Q L i c (mj_EV 167 331 [some (.ref 0), some (.ref 2), some (.ref 52), some (.int (nI i))] [] (w_al L ps) c) := by
  obtain ⟨g, R, h, hI, hM, hT⟩ := hV
  obtain ⟨x, ps', c1, c2, eA, eB, hV2, h2, h1⟩ := p_fill (L := L) (x := (c 0 (nI i + nI 1).toNatClampNeg)) (y := (c 0 (nI i + nI 2).toNatClampNeg)) (w := (c 0 (nI i + nI 3).toNatClampNeg)) hI hM hT
  have eA : mj_EV 49 0 [some (.ref 2), some (.int (c 0 (nI i + nI 1).toNatClampNeg)), some (.int (c 0 (nI i + nI 2).toNatClampNeg)), some (.int (c 0 (nI i + nI 3).toNatClampNeg))] [] (w_al L ps) c = some (some (.int x), w_al L ps', c1) := eA
  have eB : mj_EV 132 0 [some (.ref 52), some (.int (c 0 (nI i + nI 1).toNatClampNeg)), some (.int (c 0 (nI i + nI 2).toNatClampNeg)), some (.int (c 0 (nI i + nI 3).toNatClampNeg)), none] [] (w_al L ps') c1 = some (some (.int x), w_al L ps', c2) := eB
  rw [e167_331, if_pos (t_in hL hi (by decide)), if_pos (t_in hL hi (by decide)), if_pos (t_in hL hi (by decide)), eA, mj_then_i, e167_350, h1, if_pos (t_in hL hi (by decide)), if_pos (t_in hL hi (by decide)), if_pos (t_in hL hi (by decide)), eB, mj_then_i, e167_369, if_pos rfl]
  exact ⟨ps', c2, rfl, hV2, h2⟩
theorem x_374 {L i : Nat} {ps : List (Option (Option Nat))} {c : mj_C} (hL : L ≤ 2560) (hi : i + 5 ≤ L) (hV : s_V ps c) : s_Q L i c (mj_EV 167 374 [some (.ref 0), some (.ref 2), some (.ref 52), some (.int (nI i))] [] (w_al L ps) c) := by
  obtain ⟨g, R, h, hI, hM, hT⟩ := hV
  obtain ⟨x, ps', c1, c2, eA, eB, hV2, h2, h1⟩ := p_add (L := L) (x := (c 0 (nI i + nI 1).toNatClampNeg)) (y := (c 0 (nI i + nI 2).toNatClampNeg)) (w := (c 0 (nI i + nI 3).toNatClampNeg)) hI hM hT
  have eA : mj_EV 51 0 [some (.ref 2), some (.int (c 0 (nI i + nI 1).toNatClampNeg)), some (.int (c 0 (nI i + nI 2).toNatClampNeg)), some (.int (c 0 (nI i + nI 3).toNatClampNeg)), none] [] (w_al L ps) c = some (some (.int x), w_al L ps', c1) := eA
  have eB : mj_EV 133 0 [some (.ref 52), some (.int (c 0 (nI i + nI 1).toNatClampNeg)), some (.int (c 0 (nI i + nI 2).toNatClampNeg)), some (.int (c 0 (nI i + nI 3).toNatClampNeg)), none] [] (w_al L ps') c1 = some (some (.int x), w_al L ps', c2) := eB
  rw [e167_374, if_pos (t_in hL hi (by decide)), if_pos (t_in hL hi (by decide)), if_pos (t_in hL hi (by decide)), eA, mj_then_i, e167_393, h1, if_pos (t_in hL hi (by decide)), if_pos (t_in hL hi (by decide)), if_pos (t_in hL hi (by decide)), eB, mj_then_i, e167_412, if_pos rfl]
  exact ⟨ps', c2, rfl, hV2, h2⟩
theorem x_417 {L i : Nat} {ps : List (Option (Option Nat))} {c : mj_C} (hL : L ≤ 2560) (hi : i + 5 ≤ L) (hV : s_V ps c) : s_Q L i c (mj_EV 167 417 [some (.ref 0), some (.ref 2), some (.ref 52), some (.int (nI i))] [] (w_al L ps) c) := by
  obtain ⟨g, R, h, hI, hM, hT⟩ := hV
  obtain ⟨x, ps', c1, c2, eA, eB, hV2, h2, h1⟩ := p_copy (L := L) (x := (c 0 (nI i + nI 1).toNatClampNeg)) (y := (c 0 (nI i + nI 2).toNatClampNeg)) (z := (c 0 (nI i + nI 3).toNatClampNeg)) (w := (c 0 (nI i + nI 4).toNatClampNeg)) hI hM hT
  have eA : mj_EV 52 0 [some (.ref 2), some (.int (c 0 (nI i + nI 1).toNatClampNeg)), some (.int (c 0 (nI i + nI 2).toNatClampNeg)), some (.int (c 0 (nI i + nI 3).toNatClampNeg)), some (.int (c 0 (nI i + nI 4).toNatClampNeg))] [] (w_al L ps) c = some (some (.int x), w_al L ps', c1) := eA
  have eB : mj_EV 134 0 [some (.ref 52), some (.int (c 0 (nI i + nI 1).toNatClampNeg)), some (.int (c 0 (nI i + nI 2).toNatClampNeg)), some (.int (c 0 (nI i + nI 3).toNatClampNeg)), some (.int (c 0 (nI i + nI 4).toNatClampNeg))] [] (w_al L ps') c1 = some (some (.int x), w_al L ps', c2) := eB
  rw [e167_417, if_pos (t_in hL hi (by decide)), if_pos (t_in hL hi (by decide)), if_pos (t_in hL hi (by decide)), if_pos (t_in hL hi (by decide)), eA, mj_then_i, e167_441, h1, if_pos (t_in hL hi (by decide)), if_pos (t_in hL hi (by decide)), if_pos (t_in hL hi (by decide)), if_pos (t_in hL hi (by decide)), eB, mj_then_i, e167_465, if_pos rfl]
  exact ⟨ps', c2, rfl, hV2, h2⟩
theorem x_470 {L i : Nat} {ps : List (Option (Option Nat))} {c : mj_C} (hL : L ≤ 2560) (hi : i + 5 ≤ L) (hV : s_V ps c) : s_Q L i c (mj_EV 167 470 [some (.ref 0), some (.ref 2), some (.ref 52), some (.int (nI i))] [] (w_al L ps) c) := by
  obtain ⟨g, R, h, hI, hM, hT⟩ := hV
  obtain ⟨x, ps', c1, c2, eA, eB, hV2, h2, h1⟩ := p_look (L := L) (x := (c 0 (nI i + nI 1).toNatClampNeg)) (y := (c 0 (nI i + nI 2).toNatClampNeg)) (z := (c 0 (nI i + nI 3).toNatClampNeg)) hI hM hT
  have eA : mj_EV 57 0 [some (.ref 2), some (.int (c 0 (nI i + nI 1).toNatClampNeg)), some (.int (c 0 (nI i + nI 2).toNatClampNeg)), some (.int (c 0 (nI i + nI 3).toNatClampNeg))] [] (w_al L ps) c = some (some (.int x), w_al L ps', c1) := eA
  have eB : mj_EV 135 0 [some (.ref 52), some (.int (c 0 (nI i + nI 1).toNatClampNeg)), some (.int (c 0 (nI i + nI 2).toNatClampNeg)), some (.int (c 0 (nI i + nI 3).toNatClampNeg)), none, none, none] [] (w_al L ps') c1 = some (some (.int x), w_al L ps', c2) := eB
  rw [e167_470, if_pos (t_in hL hi (by decide)), if_pos (t_in hL hi (by decide)), if_pos (t_in hL hi (by decide)), eA, mj_then_i, e167_489, h1, if_pos (t_in hL hi (by decide)), if_pos (t_in hL hi (by decide)), if_pos (t_in hL hi (by decide)), eB, mj_then_i, e167_508, if_pos rfl]
  exact ⟨ps', c2, rfl, hV2, h2⟩
theorem x_513 {L i : Nat} {ps : List (Option (Option Nat))} {c : mj_C} (hL : L ≤ 2560) (hi : i + 5 ≤ L) (hV : s_V ps c) : s_Q L i c (mj_EV 167 513 [some (.ref 0), some (.ref 2), some (.ref 52), some (.int (nI i))] [] (w_al L ps) c) := by
  obtain ⟨g, R, h, hI, hM, hT⟩ := hV
  obtain ⟨x, ps', c1, c2, eA, eB, hV2, h2, h1⟩ := p_count (L := L) (x := (c 0 (nI i + nI 1).toNatClampNeg)) hI hM hT
  have eA : mj_EV 60 0 [some (.ref 2), some (.int (c 0 (nI i + nI 1).toNatClampNeg))] [] (w_al L ps) c = some (some (.int x), w_al L ps', c1) := eA
  have eB : mj_EV 138 0 [some (.ref 52), some (.int (c 0 (nI i + nI 1).toNatClampNeg))] [] (w_al L ps') c1 = some (some (.int x), w_al L ps', c2) := eB
  rw [e167_513, if_pos (t_in hL hi (by decide)), eA, mj_then_i, e167_522, h1, if_pos (t_in hL hi (by decide)), eB, mj_then_i, e167_531, if_pos rfl]
  exact ⟨ps', c2, rfl, hV2, h2⟩
theorem x_536 {L i : Nat} {ps : List (Option (Option Nat))} {c : mj_C} (hL : L ≤ 2560) (hi : i + 5 ≤ L) (hV : s_V ps c) : s_Q L i c (mj_EV 167 536 [some (.ref 0), some (.ref 2), some (.ref 52), some (.int (nI i))] [] (w_al L ps) c) := by
  obtain ⟨g, R, h, hI, hM, hT⟩ := hV
  obtain ⟨x, ps', c1, c2, eA, eB, hV2, h2, h1⟩ := p_peek (L := L) (x := (c 0 (nI i + nI 1).toNatClampNeg)) (y := (c 0 (nI i + nI 2).toNatClampNeg)) (z := (c 0 (nI i + nI 3).toNatClampNeg)) hI hM hT
  have eA : mj_EV 61 0 [some (.ref 2), some (.int (c 0 (nI i + nI 1).toNatClampNeg)), some (.int (c 0 (nI i + nI 2).toNatClampNeg)), some (.int (c 0 (nI i + nI 3).toNatClampNeg))] [] (w_al L ps) c = some (some (.int x), w_al L ps', c1) := eA
  have eB : mj_EV 139 0 [some (.ref 52), some (.int (c 0 (nI i + nI 1).toNatClampNeg)), some (.int (c 0 (nI i + nI 2).toNatClampNeg)), some (.int (c 0 (nI i + nI 3).toNatClampNeg))] [] (w_al L ps') c1 = some (some (.int x), w_al L ps', c2) := eB
  rw [e167_536, if_pos (t_in hL hi (by decide)), if_pos (t_in hL hi (by decide)), if_pos (t_in hL hi (by decide)), eA, mj_then_i, e167_555, h1, if_pos (t_in hL hi (by decide)), if_pos (t_in hL hi (by decide)), if_pos (t_in hL hi (by decide)), eB, mj_then_i, e167_574, if_pos rfl]
  exact ⟨ps', c2, rfl, hV2, h2⟩
theorem x_579 {L i : Nat} {ps : List (Option (Option Nat))} {c : mj_C} (hL : L ≤ 2560) (hi : i + 5 ≤ L) (hV : s_V ps c) : s_Q L i c (mj_EV 167 579 [some (.ref 0), some (.ref 2), some (.ref 52), some (.int (nI i))] [] (w_al L ps) c) := by
  obtain ⟨g, R, h, hI, hM, hT⟩ := hV
  obtain ⟨x, ps', c1, c2, eA, eB, hV2, h2, h1⟩ := p_page (L := L) (x := (c 0 (nI i + nI 1).toNatClampNeg)) (y := (c 0 (nI i + nI 2).toNatClampNeg)) hI hM hT
  have eA : mj_EV 62 0 [some (.ref 2), some (.int (c 0 (nI i + nI 1).toNatClampNeg)), some (.int (c 0 (nI i + nI 2).toNatClampNeg))] [] (w_al L ps) c = some (some (.int x), w_al L ps', c1) := eA
  have eB : mj_EV 141 0 [some (.ref 52), some (.int (c 0 (nI i + nI 1).toNatClampNeg)), some (.int (c 0 (nI i + nI 2).toNatClampNeg))] [] (w_al L ps') c1 = some (some (.int x), w_al L ps', c2) := eB
  rw [e167_579, if_pos (t_in hL hi (by decide)), if_pos (t_in hL hi (by decide)), eA, mj_then_i, e167_593, h1, if_pos (t_in hL hi (by decide)), if_pos (t_in hL hi (by decide)), eB, mj_then_i, e167_607, if_pos rfl]
  exact ⟨ps', c2, rfl, hV2, h2⟩
theorem x_612 {L i : Nat} {ps : List (Option (Option Nat))} {c : mj_C} (hL : L ≤ 2560) (hi : i + 5 ≤ L) (hV : s_V ps c) : s_Q L i c (mj_EV 167 612 [some (.ref 0), some (.ref 2), some (.ref 52), some (.int (nI i))] [] (w_al L ps) c) := by
  obtain ⟨g, R, h, hI, hM, hT⟩ := hV
  obtain ⟨x, ps', c1, c2, eA, eB, hV2, h2, h1⟩ := p_line (L := L) (x := (c 0 (nI i + nI 1).toNatClampNeg)) (y := (c 0 (nI i + nI 2).toNatClampNeg)) (z := (c 0 (nI i + nI 3).toNatClampNeg)) hI hM hT
  have eA : mj_EV 63 0 [some (.ref 2), some (.int (c 0 (nI i + nI 1).toNatClampNeg)), some (.int (c 0 (nI i + nI 2).toNatClampNeg)), some (.int (c 0 (nI i + nI 3).toNatClampNeg))] [] (w_al L ps) c = some (some (.int x), w_al L ps', c1) := eA
  have eB : mj_EV 143 0 [some (.ref 52), some (.int (c 0 (nI i + nI 1).toNatClampNeg)), some (.int (c 0 (nI i + nI 2).toNatClampNeg)), some (.int (c 0 (nI i + nI 3).toNatClampNeg))] [] (w_al L ps') c1 = some (some (.int x), w_al L ps', c2) := eB
  rw [e167_612, if_pos (t_in hL hi (by decide)), if_pos (t_in hL hi (by decide)), if_pos (t_in hL hi (by decide)), eA, mj_then_i, e167_631, h1, if_pos (t_in hL hi (by decide)), if_pos (t_in hL hi (by decide)), if_pos (t_in hL hi (by decide)), eB, mj_then_i, e167_650, if_pos rfl]
  exact ⟨ps', c2, rfl, hV2, h2⟩
theorem x_655 {L i : Nat} {ps : List (Option (Option Nat))} {c : mj_C} (hL : L ≤ 2560) (hi : i + 5 ≤ L) (hV : s_V ps c) : s_Q L i c (mj_EV 167 655 [some (.ref 0), some (.ref 2), some (.ref 52), some (.int (nI i))] [] (w_al L ps) c) := by
  obtain ⟨g, R, h, hI, hM, hT⟩ := hV
  obtain ⟨x, ps', c1, c2, eA, eB, hV2, h2, h1⟩ := p_lines (L := L) (x := (c 0 (nI i + nI 1).toNatClampNeg)) hI hM hT
  have eA : mj_EV 64 0 [some (.ref 2), some (.int (c 0 (nI i + nI 1).toNatClampNeg)), none, none, none] [] (w_al L ps) c = some (some (.int x), w_al L ps', c1) := eA
  have eB : mj_EV 145 0 [some (.ref 52), some (.int (c 0 (nI i + nI 1).toNatClampNeg))] [] (w_al L ps') c1 = some (some (.int x), w_al L ps', c2) := eB
  rw [e167_655, if_pos (t_in hL hi (by decide)), eA, mj_then_i, e167_664, h1, if_pos (t_in hL hi (by decide)), eB, mj_then_i, e167_673, if_pos rfl]
  exact ⟨ps', c2, rfl, hV2, h2⟩
theorem x_678 {L i : Nat} {ps : List (Option (Option Nat))} {c : mj_C} (hL : L ≤ 2560) (hi : i + 5 ≤ L) (hV : s_V ps c) : s_Q L i c (mj_EV 167 678 [some (.ref 0), some (.ref 2), some (.ref 52), some (.int (nI i))] [] (w_al L ps) c) := by
  obtain ⟨g, R, h, hI, hM, hT⟩ := hV
  obtain ⟨x, ps', c1, c2, eA, eB, hV2, h2, h1⟩ := p_hint (L := L) (x := (c 0 (nI i + nI 1).toNatClampNeg)) (y := (c 0 (nI i + nI 2).toNatClampNeg)) hI hM hT
  have eA : mj_EV 65 0 [some (.ref 2), some (.int (c 0 (nI i + nI 1).toNatClampNeg)), some (.int (c 0 (nI i + nI 2).toNatClampNeg))] [] (w_al L ps) c = some (some (.int x), w_al L ps', c1) := eA
  have eB : mj_EV 147 0 [some (.ref 52), some (.int (c 0 (nI i + nI 1).toNatClampNeg)), some (.int (c 0 (nI i + nI 2).toNatClampNeg))] [] (w_al L ps') c1 = some (some (.int x), w_al L ps', c2) := eB
  rw [e167_678, if_pos (t_in hL hi (by decide)), if_pos (t_in hL hi (by decide)), eA, mj_then_i, e167_692, h1, if_pos (t_in hL hi (by decide)), if_pos (t_in hL hi (by decide)), eB, mj_then_i, e167_706, if_pos rfl]
  exact ⟨ps', c2, rfl, hV2, h2⟩
theorem x_711 {L i : Nat} {ps : List (Option (Option Nat))} {c : mj_C} (hL : L ≤ 2560) (hi : i + 5 ≤ L) (hV : s_V ps c) : s_Q L i c (mj_EV 167 711 [some (.ref 0), some (.ref 2), some (.ref 52), some (.int (nI i))] [] (w_al L ps) c) := by
  obtain ⟨g, R, h, hI, hM, hT⟩ := hV
  obtain ⟨x, ps', c1, c2, eA, eB, hV2, h2, h1⟩ := p_equal (L := L) (x := (c 0 (nI i + nI 1).toNatClampNeg)) (y := (c 0 (nI i + nI 2).toNatClampNeg)) hI hM hT
  have eA : mj_EV 67 0 [some (.ref 2), some (.int (c 0 (nI i + nI 1).toNatClampNeg)), some (.int (c 0 (nI i + nI 2).toNatClampNeg)), none, none, none] [] (w_al L ps) c = some (some (.int x), w_al L ps', c1) := eA
  have eB : mj_EV 148 0 [some (.ref 52), some (.int (c 0 (nI i + nI 1).toNatClampNeg)), some (.int (c 0 (nI i + nI 2).toNatClampNeg)), none, none, none, none, none] [] (w_al L ps') c1 = some (some (.int x), w_al L ps', c2) := eB
  rw [e167_711, if_pos (t_in hL hi (by decide)), if_pos (t_in hL hi (by decide)), eA, mj_then_i, e167_725, h1, if_pos (t_in hL hi (by decide)), if_pos (t_in hL hi (by decide)), eB, mj_then_i, e167_739, if_pos rfl]
  exact ⟨ps', c2, rfl, hV2, h2⟩
theorem x_744 {L i : Nat} {ps : List (Option (Option Nat))} {c : mj_C} (hL : L ≤ 2560) (hi : i + 5 ≤ L) (hV : s_V ps c) : s_Q L i c (mj_EV 167 744 [some (.ref 0), some (.ref 2), some (.ref 52), some (.int (nI i))] [] (w_al L ps) c) := by
  obtain ⟨g, R, h, hI, hM, hT⟩ := hV
  obtain ⟨x, ps', c1, c2, eA, eB, hV2, h2, h1⟩ := p_ifWritten (L := L) (x := (c 0 (nI i + nI 1).toNatClampNeg)) (y := (c 0 (nI i + nI 2).toNatClampNeg)) (z := (c 0 (nI i + nI 3).toNatClampNeg)) (w := (c 0 (nI i + nI 4).toNatClampNeg)) hI hM hT
  have eA : mj_EV 68 0 [some (.ref 2), some (.int (c 0 (nI i + nI 1).toNatClampNeg)), some (.int (c 0 (nI i + nI 2).toNatClampNeg)), some (.int (c 0 (nI i + nI 3).toNatClampNeg)), some (.int (c 0 (nI i + nI 4).toNatClampNeg))] [] (w_al L ps) c = some (some (.int x), w_al L ps', c1) := eA
  have eB : mj_EV 149 0 [some (.ref 52), some (.int (c 0 (nI i + nI 1).toNatClampNeg)), some (.int (c 0 (nI i + nI 2).toNatClampNeg)), some (.int (c 0 (nI i + nI 3).toNatClampNeg)), some (.int (c 0 (nI i + nI 4).toNatClampNeg))] [] (w_al L ps') c1 = some (some (.int x), w_al L ps', c2) := eB
  rw [e167_744, if_pos (t_in hL hi (by decide)), if_pos (t_in hL hi (by decide)), if_pos (t_in hL hi (by decide)), if_pos (t_in hL hi (by decide)), eA, mj_then_i, e167_768, h1, if_pos (t_in hL hi (by decide)), if_pos (t_in hL hi (by decide)), if_pos (t_in hL hi (by decide)), if_pos (t_in hL hi (by decide)), eB, mj_then_i, e167_792, if_pos rfl]
  exact ⟨ps', c2, rfl, hV2, h2⟩
theorem x_797 {L i : Nat} {ps : List (Option (Option Nat))} {c : mj_C} (hL : L ≤ 2560) (hi : i + 5 ≤ L) (hV : s_V ps c) : s_Q L i c (mj_EV 167 797 [some (.ref 0), some (.ref 2), some (.ref 52), some (.int (nI i))] [] (w_al L ps) c) := by
  obtain ⟨g, R, h, hI, hM, hT⟩ := hV
  obtain ⟨x, ps', c1, c2, eA, eB, hV2, h2, h1⟩ := p_ifRoom (L := L) (x := (c 0 (nI i + nI 1).toNatClampNeg)) hI hM hT
  have eA : mj_EV 69 0 [some (.ref 2), some (.int (c 0 (nI i + nI 1).toNatClampNeg)), none, none] [] (w_al L ps) c = some (some (.int x), w_al L ps', c1) := eA
  have eB : mj_EV 150 0 [some (.ref 52), some (.int (c 0 (nI i + nI 1).toNatClampNeg)), none] [] (w_al L ps') c1 = some (some (.int x), w_al L ps', c2) := eB
  rw [e167_797, if_pos (t_in hL hi (by decide)), eA, mj_then_i, e167_806, h1, if_pos (t_in hL hi (by decide)), eB, mj_then_i, e167_815, if_pos rfl]
  exact ⟨ps', c2, rfl, hV2, h2⟩
theorem x_820 {L i : Nat} {ps : List (Option (Option Nat))} {c : mj_C} (hV : s_V ps c) : s_Q L i c (mj_EV 167 820 [some (.ref 0), some (.ref 2), some (.ref 52), some (.int (nI i))] [] (w_al L ps) c) := by
  obtain ⟨g, R, h, hI, hM, hT⟩ := hV
  obtain ⟨x, ps', c1, c2, eA, eB, hV2, h2, h1⟩ := p_loosest (L := L) hI hM hT
  have eA : mj_EV 70 0 [some (.ref 2), none, none, none, none] [] (w_al L ps) c = some (some (.int x), w_al L ps', c1) := eA
  have eB : mj_EV 152 0 [some (.ref 52)] [] (w_al L ps') c1 = some (some (.int x), w_al L ps', c2) := eB
  rw [e167_820, eA, mj_then_i, e167_824, eB, mj_then_i, e167_828, if_pos rfl]
  exact ⟨ps', c2, rfl, hV2, h2⟩
theorem x_833 {L i : Nat} {ps : List (Option (Option Nat))} {c : mj_C} (hV : s_V ps c) : s_Q L i c (mj_EV 167 833 [some (.ref 0), some (.ref 2), some (.ref 52), some (.int (nI i))] [] (w_al L ps) c) := by
  obtain ⟨g, R, h, hI, hM, hT⟩ := hV
  obtain ⟨x, ps', c1, c2, eA, eB, hV2, h2, h1⟩ := p_rawLeft (L := L) hI hM hT
  have eA : mj_EV 71 0 [some (.ref 2)] [] (w_al L ps) c = some (some (.int x), w_al L ps', c1) := eA
  have eB : mj_EV 154 0 [some (.ref 52)] [] (w_al L ps') c1 = some (some (.int x), w_al L ps', c2) := eB
  rw [e167_833, eA, mj_then_i, e167_837, eB, mj_then_i, e167_841, if_pos rfl]
  exact ⟨ps', c2, rfl, hV2, h2⟩
theorem x_846 {L i : Nat} {ps : List (Option (Option Nat))} {c : mj_C} (hL : L ≤ 2560) (hi : i + 5 ≤ L) (hV : s_V ps c) : s_Q L i c (mj_EV 167 846 [some (.ref 0), some (.ref 2), some (.ref 52), some (.int (nI i))] [] (w_al L ps) c) := by
  obtain ⟨g, R, h, hI, hM, hT⟩ := hV
  obtain ⟨x, ps', c1, c2, eA, eB, hV2, h2, h1⟩ := p_type (L := L) (x := (c 0 (nI i + nI 1).toNatClampNeg)) hI hM hT
  have eA : mj_EV 72 0 [some (.ref 2), some (.int (c 0 (nI i + nI 1).toNatClampNeg))] [] (w_al L ps) c = some (some (.int x), w_al L ps', c1) := eA
  have eB : mj_EV 155 0 [some (.ref 52), some (.int (c 0 (nI i + nI 1).toNatClampNeg))] [] (w_al L ps') c1 = some (some (.int x), w_al L ps', c2) := eB
  rw [e167_846, if_pos (t_in hL hi (by decide)), eA, mj_then_i, e167_855, h1, if_pos (t_in hL hi (by decide)), eB, mj_then_i, e167_864, if_pos rfl]
  exact ⟨ps', c2, rfl, hV2, h2⟩
theorem x_869 {L i : Nat} {ps : List (Option (Option Nat))} {c : mj_C} (hV : s_V ps c) : s_Q L i c (mj_EV 167 869 [some (.ref 0), some (.ref 2), some (.ref 52), some (.int (nI i))] [] (w_al L ps) c) := by
  obtain ⟨g, R, h, hI, hM, hT⟩ := hV
  obtain ⟨x, ps', c1, c2, eA, eB, hV2, h2, h1⟩ := p_clear (L := L) hI hM hT
  have eA : mj_EV 73 0 [some (.ref 2), none] [] (w_al L ps) c = some (some (.int x), w_al L ps', c1) := eA
  have eB : mj_EV 156 0 [some (.ref 52), none] [] (w_al L ps') c1 = some (some (.int x), w_al L ps', c2) := eB
  rw [e167_869, eA, mj_then_i, e167_873, eB, mj_then_i, e167_877, if_pos rfl]
  exact ⟨ps', c2, rfl, hV2, h2⟩
theorem x_882 {L i : Nat} {ps : List (Option (Option Nat))} {c : mj_C} (hV : s_V ps c) : s_Q L i c (mj_EV 167 882 [some (.ref 0), some (.ref 2), some (.ref 52), some (.int (nI i))] [] (w_al L ps) c) := by
  obtain ⟨g, R, h, hI, hM, hT⟩ := hV
  obtain ⟨x, ps', c1, c2, eA, eB, hV2, h2, h1⟩ := p_syntax (L := L) hI hM hT
  have eA : mj_EV 81 0 [some (.ref 2), none] [] (w_al L ps) c = some (some (.int x), w_al L ps', c1) := eA
  have eB : mj_EV 163 0 [some (.ref 52)] [] (w_al L ps') c1 = some (some (.int x), w_al L ps', c2) := eB
  rw [e167_882, eA, mj_then_i, e167_886, eB, mj_then_i, e167_890, if_pos rfl]
  exact ⟨ps', c2, rfl, hV2, h2⟩
theorem x_895 {L i : Nat} {ps : List (Option (Option Nat))} {c : mj_C} (hV : s_V ps c) : s_Q L i c (mj_EV 167 895 [some (.ref 0), some (.ref 2), some (.ref 52), some (.int (nI i))] [] (w_al L ps) c) := by
  obtain ⟨g, R, h, hI, hM, hT⟩ := hV
  obtain ⟨x, ps', c1, c2, eA, eB, hV2, h2, h1⟩ := p_readLines (L := L) hI hM hT
  have eA : mj_EV 84 0 [some (.ref 2), none] [] (w_al L ps) c = some (some (.int x), w_al L ps', c1) := eA
  have eB : mj_EV 164 0 [some (.ref 52), none, none] [] (w_al L ps') c1 = some (some (.int x), w_al L ps', c2) := eB
  rw [e167_895, eA, mj_then_i, e167_899, eB, mj_then_i, e167_903, if_pos rfl]
  exact ⟨ps', c2, rfl, hV2, h2⟩
theorem x_908 {L i : Nat} {ps : List (Option (Option Nat))} {c : mj_C} (hV : s_V ps c) : s_Q L i c (mj_EV 167 908 [some (.ref 0), some (.ref 2), some (.ref 52), some (.int (nI i))] [] (w_al L ps) c) := by
  obtain ⟨g, R, h, hI, hM, hT⟩ := hV
  obtain ⟨x, ps', c1, c2, eA, eB, hV2, h2, h1⟩ := p_undo (L := L) hI hM hT
  have eA : mj_EV 88 0 [some (.ref 2)] [] (w_al L ps) c = some (some (.int x), w_al L ps', c1) := eA
  have eB : mj_EV 165 0 [some (.ref 52)] [] (w_al L ps') c1 = some (some (.int x), w_al L ps', c2) := eB
  rw [e167_908, eA, mj_then_i, e167_912, eB, mj_then_i, e167_916, if_pos rfl]
  exact ⟨ps', c2, rfl, hV2, h2⟩
theorem x_921 {L i : Nat} {ps : List (Option (Option Nat))} {c : mj_C} (hV : s_V ps c) : s_Q L i c (mj_EV 167 921 [some (.ref 0), some (.ref 2), some (.ref 52), some (.int (nI i))] [] (w_al L ps) c) := by
  obtain ⟨g, R, h, hI, hM, hT⟩ := hV
  obtain ⟨eA, eB⟩ := p_digest (L := L) hI hM
  have eA : mj_EV 91 0 [some (.ref 2), none, none, none] [] (w_al L ps) c = some (some (.long (s_dg g)), w_al L ps, c) := eA
  rw [e167_921, eA, mj_then_l, e167_925, eB, mj_then_l, e167_929, if_pos (lg_cmp_self _)]
  exact ⟨ps, c, rfl, ⟨g, R, h, hI, hM, hT⟩, rfl⟩
