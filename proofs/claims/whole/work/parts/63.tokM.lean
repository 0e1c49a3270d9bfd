/-! THE MODEL'S TEXT AND TOKENS. -/
abbrev MX (σ : qS) (n : Nat) (B : Nat → Nat) : Prop := σ.1 151 1 = nI n ∧ n ≤ 4000 ∧ (∀ i : Nat, i < n → B i < 256) ∧ ∀ i : Nat, i < n → σ.1 152 i = nI (B i)
theorem MX.len {σ : qS} {n : Nat} {B : Nat → Nat} (h : MX σ n B) : σ.1 151 1 = nI n := h.1
theorem MX.le {σ : qS} {n : Nat} {B : Nat → Nat} (h : MX σ n B) : n ≤ 4000 := h.2.1
theorem MX.byte {σ : qS} {n : Nat} {B : Nat → Nat} (h : MX σ n B) : ∀ i : Nat, i < n → B i < 256 := h.2.2.1
theorem MX.text {σ : qS} {n : Nat} {B : Nat → Nat} (h : MX σ n B) : ∀ i : Nat, i < n → σ.1 152 i = nI (B i) := h.2.2.2
theorem MX.uI {σ : qS} {n k : Nat} {B : Nat → Nat} {v : Int32} (h : MX σ n B) (hk : k ≠ 1) : MX (uI σ 151 k v) n B := by
  refine ⟨?_, h.le, h.byte, fun i hi => ?_⟩
  · rw [g_I, if_neg (fun q => hk q.2.symm)]
    exact h.len
  · rw [g_I, if_neg (fun q => absurd q.1 (by decide))]
    exact h.text i hi
theorem MX.uJ {σ : qS} {n a k : Nat} {B : Nat → Nat} {v : Int64} (h : MX σ n B) : MX (uJ σ a k v) n B := ⟨h.len, h.le, h.byte, h.text⟩
theorem lit {b : Nat} (h : b < 256) (c : Nat) (hc : c < 256) : nI b = nI c ↔ b = c := nI_is h hc
theorem m_skip {en : pN} {d n : Nat} {B : Nat → Nat} {r : qR} : ∀ k p : Nat, ∀ σ : qS, MX σ n B → σ.1 151 2 = nI p → p + k = n →
    (L_X12_next_136 en d (uI σ 151 2 (nI (skp B k false p))) = some r → L_X12_next_10 en d 1 σ = some r) ∧ (L_X12_next_136 en d (uI σ 151 2 (nI (skp B k true p))) = some r → L_X12_next_77 en d 1 σ = some r) := by
  intro k
  induction k with
  | zero =>
    intro p σ hT hp hk
    have hn := hT.le
    have h0 : σ.1 151 1 ≤ σ.1 151 2 := by rw [hT.len, hp]; exact nI_le (by omega) (by omega)
    have k0 : L_X12_next_136 en d (uI σ 151 2 (nI p)) = some r → L_X12_next_10 en d 1 σ = some r := by
      intro hr
      rw [uI_eq hp] at hr
      exact le_X12_next_10 en d 1 σ r (by rw [if_pos h0]; exact hr)
    exact ⟨k0, fun hr => le_X12_next_77 en d 1 σ r (by rw [if_pos h0]; exact k0 hr)⟩
  | succ k ih =>
    intro p σ hT hp hk
    have hn := hT.le
    have hB := hT.byte p (by omega)
    have h0 : ¬ σ.1 151 1 ≤ σ.1 151 2 := by rw [hT.len, hp]; exact nI_ge (by omega) (by omega)
    have hT1 : MX (uI σ 151 2 (nI (p + 1))) n B := hT.uI (by decide)
    obtain ⟨ihf, iht⟩ := ih (p + 1) (uI σ 151 2 (nI (p + 1))) hT1 rfl (by omega)
    rw [uI_uI] at ihf iht
    have z2 : σ.1 152 p = nI (B p) := hT.text p (by omega)
    have go10 : ∀ {v : Int32}, ¬ v = 35 → L_X12_next_136 en d (uI σ 151 2 (nI (skp B k false (p + 1)))) = some r → L_X12_next_70 en d v 1 σ = some r := by
      intro v hv hr
      refine le_X12_next_70 en d v 1 σ r ?_
      rw [if_pos hv, if_neg (by decide)]
      refine le_X12_next_129 en d 1 _ 1 σ r ?_
      rw [nm_eq, hp, nI_1]
      exact ihf hr
    have K77 : L_X12_next_136 en d (uI σ 151 2 (nI (skp B (k + 1) true p))) = some r → L_X12_next_77 en d 1 σ = some r := by
      intro hr
      unfold skp at hr
      refine le_X12_next_77 en d 1 σ r ?_
      rw [if_neg h0, hp, gd_true (inB_nI (by omega) (by decide)), nI_clamp (by omega), z2]
      by_cases h10 : B p = 10
      · rw [if_pos h10] at hr
        rw [if_pos (show nI (B p) = (10 : Int32) from (lit hB 10 (by decide)).mpr h10)]
        refine le_X12_next_10 en d 1 σ r ?_
        rw [if_neg h0, if_neg (by decide), hp, gd_true (inB_nI (by omega) (by decide)), nI_clamp (by omega), z2, nm_eq, h10, if_neg (show ¬ nI 10 = (9 : Int32) by decide), if_pos (show nI 10 = (10 : Int32) by decide)]
        exact go10 (by decide) hr
      · rw [if_neg h10] at hr
        rw [if_neg (show ¬ nI (B p) = (10 : Int32) from fun q => h10 ((lit hB 10 (by decide)).mp q)), nm_eq, nI_1]
        refine iht ?_
        by_cases h35 : B p = 35
        · rw [if_pos h35] at hr; exact hr
        · rw [if_neg h35, if_pos (Or.inl rfl)] at hr; exact hr
    refine ⟨fun hr => ?_, K77⟩
    refine le_X12_next_10 en d 1 σ r ?_
    rw [if_neg h0, if_neg (by decide), hp, gd_true (inB_nI (by omega) (by decide)), nI_clamp (by omega), z2, nm_eq]
    by_cases h35 : B p = 35
    · rw [h35, if_neg (show ¬ nI 35 = (9 : Int32) by decide), if_neg (show ¬ nI 35 = (10 : Int32) by decide), if_neg (show ¬ nI 35 = (13 : Int32) by decide), if_neg (show ¬ nI 35 = (32 : Int32) by decide), if_neg (not_not_intro (show nI 35 = (35 : Int32) by decide))]
      refine le_X12_next_70 en d _ 1 σ r ?_
      rw [if_neg (not_not_intro (show nI 35 = (35 : Int32) by decide))]
      refine K77 ?_
      unfold skp at hr ⊢
      rw [if_neg (by omega), if_pos h35] at hr ⊢
      exact hr
    · have n35 : ¬ nI (B p) = (35 : Int32) := fun q => h35 ((lit hB 35 (by decide)).mp q)
      unfold skp at hr
      by_cases h10 : B p = 10
      · rw [if_pos h10] at hr
        rw [if_neg (show ¬ nI (B p) = (9 : Int32) by rw [h10]; decide), if_pos (show nI (B p) = (10 : Int32) from (lit hB 10 (by decide)).mpr h10)]
        exact go10 n35 hr
      · rw [if_neg h10, if_neg h35] at hr
        by_cases hb : B p = 9 ∨ B p = 13 ∨ B p = 32
        · rw [if_pos (Or.inr hb)] at hr
          have e := go10 n35 hr
          rcases hb with hb | hb | hb
          · rw [if_pos (show nI (B p) = (9 : Int32) from (lit hB 9 (by decide)).mpr hb)]; exact e
          · rw [if_neg (show ¬ nI (B p) = (9 : Int32) by rw [hb]; decide), if_neg (show ¬ nI (B p) = (10 : Int32) by rw [hb]; decide), if_pos (show nI (B p) = (13 : Int32) from (lit hB 13 (by decide)).mpr hb)]; exact e
          · rw [if_neg (show ¬ nI (B p) = (9 : Int32) by rw [hb]; decide), if_neg (show ¬ nI (B p) = (10 : Int32) by rw [hb]; decide), if_neg (show ¬ nI (B p) = (13 : Int32) by rw [hb]; decide), if_pos (show nI (B p) = (32 : Int32) from (lit hB 32 (by decide)).mpr hb)]; exact e
        · rw [if_neg (show ¬ (false = true ∨ B p = 9 ∨ B p = 13 ∨ B p = 32) from fun q => q.elim (fun z => by cases z) hb)] at hr
          have ne : ∀ {c : Nat}, c < 256 → B p ≠ c → ¬ nI (B p) = nI c := fun hc z q => z ((lit hB _ hc).mp q)
          rw [if_neg (show ¬ nI (B p) = (9 : Int32) from ne (c := 9) (by decide) (by omega)), if_neg (show ¬ nI (B p) = (10 : Int32) from ne (c := 10) (by decide) (by omega)), if_neg (show ¬ nI (B p) = (13 : Int32) from ne (c := 13) (by decide) (by omega)), if_neg (show ¬ nI (B p) = (32 : Int32) from ne (c := 32) (by decide) (by omega)), if_pos n35]
          refine le_X12_next_70 en d _ 0 σ r ?_
          rw [if_pos n35, if_pos rfl]
          refine le_X12_next_129 en d 0 _ 0 σ r ?_
          rw [nm_eq, hp, show nI p + (0 : Int32) = nI p from nI_add p 0, uI_eq hp]
          rw [uI_eq hp] at hr
          exact le_X12_next_10 en d 0 σ r (by rw [if_neg h0, if_pos rfl]; exact hr)
/-! need, fail -/
def flS (w pl : Int32) (σ : qS) : qS := if σ.1 151 7 = 0 then uI (uI σ 151 7 w) 151 8 pl else σ
def ndS (ok : Bool) (w : Int32) (σ : qS) : qS := if ok = true then σ else flS w (σ.1 151 4) σ
theorem m_fail {en : pN} {d : Nat} {w pl : Int32} {σ : qS} : qev en (d + 1) 244 [.ref 151, .int w, .int pl] σ = some (none, flS w pl σ) := by
  refine le_X12_fail en d w pl σ _ ?_
  unfold flS
  by_cases h : σ.1 151 7 = 0
  · rw [if_neg (not_not_intro h), if_pos h]; rfl
  · rw [if_pos h, if_neg h]
theorem m_need {en : pN} {d : Nat} {ok : Bool} {w : Int32} {σ : qS} : qev en (d + 2) 245 [.ref 151, .int (tI ok), .int w] σ = some (none, ndS ok w σ) := by
  refine le_X12_need en (d + 1) (tI ok) w σ _ ?_
  unfold ndS
  cases ok with
  | true => rw [if_pos (by decide), if_pos rfl]
  | false => rw [if_neg (by decide), m_fail, bV_some, if_neg (by decide)]
theorem m_good {en : pN} {d : Nat} {σ : qS} : qev en (d + 1) 243 [.ref 151] σ = some (some (.int (tI (decide (σ.1 151 7 = 0)))), σ) := by
  refine le_X12_good en d σ _ ?_
  by_cases h : σ.1 151 7 = 0
  · rw [if_neg (not_not_intro h), decide_eq_true h]; rfl
  · rw [if_pos h, decide_eq_false h]; rfl
theorem m_isLetter {en : pN} {d b : Nat} {σ : qS} (h : b < 256) : qev en (d + 1) 246 [.int (nI b)] σ = some (some (.int (tI (ltr b))), σ) := by
  refine le_X12_isLetter en d (nI b) σ _ ?_
  have hL : L_X12_isLetter_12 en d (nI b) σ = some (some (.int (tI (decide (65 ≤ b ∧ b ≤ 90)))), σ) := by
    refine le_X12_isLetter_12 en d (nI b) σ _ ?_
    by_cases h1 : b < 65
    · rw [if_pos (show nI b < (65 : Int32) from nI_lt (b := 65) h1 (by decide)), decide_eq_false (by omega)]; rfl
    · rw [if_neg (show ¬ nI b < (65 : Int32) from nI_nlt (b := 65) (by omega) (by omega))]
      by_cases h2 : 90 < b
      · rw [if_pos (show (90 : Int32) < nI b from nI_lt (a := 90) h2 (by omega)), decide_eq_false (by omega)]; rfl
      · rw [if_neg (show ¬ (90 : Int32) < nI b from nI_nlt (b := b) (a := 90) (by omega) (by decide)), decide_eq_true (by omega)]; rfl
  unfold ltr
  by_cases h1 : b < 97
  · rw [if_pos (show nI b < (97 : Int32) from nI_lt (b := 97) h1 (by decide)), hL, decide_eq_false (show ¬ (97 ≤ b ∧ b ≤ 122) by omega), Bool.false_or]
  · rw [if_neg (show ¬ nI b < (97 : Int32) from nI_nlt (b := 97) (by omega) (by omega))]
    by_cases h2 : b ≤ 122
    · rw [if_pos (show nI b ≤ (122 : Int32) from nI_le (b := 122) h2 (by decide)), decide_eq_true (show 97 ≤ b ∧ b ≤ 122 by omega), Bool.true_or]; rfl
    · rw [if_neg (show ¬ nI b ≤ (122 : Int32) from nI_ge (a := 122) (by omega) (by omega)), hL, decide_eq_false (show ¬ (97 ≤ b ∧ b ≤ 122) by omega), Bool.false_or]
theorem m_isFigure {en : pN} {d b : Nat} {σ : qS} (h : b < 256) : qev en (d + 1) 247 [.int (nI b)] σ = some (some (.int (tI (dgt b))), σ) := by
  refine le_X12_isFigure en d (nI b) σ _ ?_
  unfold dgt
  by_cases h1 : b < 48
  · rw [if_pos (show nI b < (48 : Int32) from nI_lt (b := 48) h1 (by decide)), decide_eq_false (by omega)]; rfl
  · rw [if_neg (show ¬ nI b < (48 : Int32) from nI_nlt (b := 48) (by omega) (by omega))]
    by_cases h2 : 57 < b
    · rw [if_pos (show (57 : Int32) < nI b from nI_lt (a := 57) h2 (by omega)), decide_eq_false (by omega)]; rfl
    · rw [if_neg (show ¬ (57 : Int32) < nI b from nI_nlt (b := b) (a := 57) (by omega) (by decide)), decide_eq_true (by omega)]; rfl
/-! the model's words, numbers, signs -/
def f8 (m : Int64) (b : Nat) : Int64 := (m <<< ((8 : Int32).toInt64 &&& 63)) ||| (nI b).toInt64
/-- a place and a meaning of the model -/
def mW (σ : qS) (q : Nat) (m : Int64) : qS := uI (uJ σ 151 5 m) 151 2 (nI q)
theorem mW_mW {σ : qS} {q q' : Nat} {m m' : Int64} : mW (mW σ q m) q' m' = mW σ q' m' := by
  unfold mW
  rw [uJ_uI, uJ_uJ, uI_uI]
theorem MX.mW {σ : qS} {n q : Nat} {B : Nat → Nat} {m : Int64} (h : MX σ n B) : MX (mW σ q m) n B := h.uJ.uI (by decide)
theorem uJ_eq {σ : qS} {a k : Nat} {v : Int64} (h : σ.2.1 a k = v) : uJ σ a k v = σ := by
  unfold uJ
  refine Prod.ext rfl (Prod.ext (funext fun b => funext fun j => ?_) rfl)
  show (if b = a ∧ j = k then v else σ.2.1 b j) = σ.2.1 b j
  by_cases q : b = a ∧ j = k
  · rw [if_pos q, q.1, q.2, h]
  · rw [if_neg q]
theorem mW_rf {σ : qS} {p : Nat} (hp : σ.1 151 2 = nI p) : σ = mW σ p (σ.2.1 151 5) := by
  unfold mW
  rw [uJ_eq rfl, uI_eq hp]
theorem m_wordRun {en : pN} {d n : Nat} {B : Nat → Nat} {r : qR} : ∀ (k p c : Nat) (σ : qS), MX σ n B → σ.1 151 2 = nI p → p + k = n →
    L_X12_next_278 en (d + 1) (nI (c + (wnd wch B k p - p))) (mW σ (wnd wch B k p) (wcd wch f8 B k p (σ.2.1 151 5))) = some r → L_X12_next_185 en (d + 1) (nI c) σ = some r := by
  intro k
  induction k with
  | zero =>
    intro p c σ hT hp hk hr
    refine le_X12_next_185 en (d + 1) (nI c) σ r ?_
    rw [if_pos (by rw [hT.len, hp]; exact nI_le (by omega) (by have := hT.le; omega)), mW_rf hp]
    have : c + (wnd wch B 0 p - p) = c := by show c + (p - p) = c; omega
    rw [this] at hr
    exact hr
  | succ k ih =>
    intro p c σ hT hp hk hr
    have hn := hT.le
    have hB := hT.byte p (by omega)
    have z2 : σ.1 152 p = nI (B p) := hT.text p (by omega)
    have hin : p_inB (nI p) 4000 = true := inB_nI (by omega) (by decide)
    have hcl : (nI p).toNatClampNeg = p := nI_clamp (by omega)
    refine le_X12_next_185 en (d + 1) (nI c) σ r ?_
    rw [if_neg (by rw [hT.len, hp]; exact nI_ge (by omega) (by omega)), hp, gd_true hin, hcl, z2, m_isLetter hB, bI_some]
    have go : wch (B p) = true → L_X12_next_240 en (d + 1) (nI c) σ = some r := by
      intro hw
      refine le_X12_next_240 en (d + 1) (nI c) σ r ?_
      rw [hp, gd_true hin, nm_eq, nm_eq, hcl, z2, show ∀ m : Int64, (uJ σ 151 5 m).1 151 2 = nI p from fun _ => hp, nI_1, nI_1]
      refine ih (p + 1) (c + 1) (mW σ (p + 1) (f8 (σ.2.1 151 5) (B p))) hT.mW rfl (by omega) ?_
      rw [mW_mW]
      unfold wnd wcd at hr
      rw [if_pos hw, if_pos hw] at hr
      have hge := wnd_ge (P := wch) (B := B) k (p + 1)
      rw [show c + 1 + (wnd wch B k (p + 1) - (p + 1)) = c + (wnd wch B k (p + 1) - p) by omega]
      exact hr
    have stop : wch (B p) = false → L_X12_next_278 en (d + 1) (nI c) σ = some r := by
      intro hw
      unfold wnd wcd at hr
      rw [if_neg (by rw [hw]; decide), if_neg (by rw [hw]; decide), ← mW_rf hp, Nat.sub_self] at hr
      exact hr
    by_cases h1 : ltr (B p) = true
    · rw [if_pos (fun q => absurd (tI0.mp q) (by rw [h1]; decide))]
      exact go (by unfold wch; rw [h1]; rfl)
    · have h1 : ltr (B p) = false := by revert h1; cases ltr (B p) <;> simp
      rw [if_neg (not_not_intro (tI0.mpr h1)), hp, gd_true hin, hcl, z2, m_isFigure hB, bI_some]
      by_cases h2 : dgt (B p) = true
      · rw [if_pos (fun q => absurd (tI0.mp q) (by rw [h2]; decide))]
        exact go (by unfold wch; rw [h1, h2]; rfl)
      · have h2 : dgt (B p) = false := by revert h2; cases dgt (B p) <;> simp
        rw [if_neg (not_not_intro (tI0.mpr h2)), hp, gd_true hin, hcl, z2]
        by_cases h3 : B p = 95
        · rw [if_neg (not_not_intro (show nI (B p) = (95 : Int32) from (nI_is hB (c := 95) (by decide)).mpr h3))]
          exact go (by unfold wch; rw [h1, h2, h3]; rfl)
        · rw [if_pos (show ¬ nI (B p) = (95 : Int32) from fun q => h3 ((nI_is hB (c := 95) (by decide)).mp q))]
          exact stop (by unfold wch; rw [h1, h2, decide_eq_false h3]; rfl)
theorem m_wordEnd {en : pN} {d len : Nat} {σ : qS} (h : len < 2 ^ 31) : L_X12_next_278 en (d + 2) (nI len) σ = some (none, uI (ndS (decide (len ≤ 8)) 1 σ) 151 3 1) := by
  refine le_X12_next_278 en (d + 2) (nI len) σ _ ?_
  by_cases h8 : len ≤ 8
  · rw [if_neg (show ¬ (8 : Int32) < nI len from nI_nlt (a := 8) h8 (by decide)), decide_eq_true h8]
    refine le_X12_next_290 en (d + 2) 1 σ _ ?_
    rw [show (1 : Int32) = tI true from rfl, m_need, bV_some]
    rfl
  · rw [if_pos (show (8 : Int32) < nI len from nI_lt (a := 8) (by omega) h), decide_eq_false h8]
    refine le_X12_next_290 en (d + 2) 0 σ _ ?_
    rw [show (0 : Int32) = tI false from rfl, m_need, bV_some]
    rfl
/-- the model's number: three figures at most are counted -/
def ncd (B : Nat → Nat) : Nat → Nat → Nat → Int32 → Int32
  | 0, _, _, m => m
  | k + 1, p, c, m => if dgt (B p) = true then ncd B k (p + 1) (c + 1) (if c < 3 then (((10 : Int32) * m) + nI (B p)) - (48 : Int32) else 0) else m
def mN (σ : qS) (q : Nat) (m : Int32) : qS := uI (uI σ 151 6 m) 151 2 (nI q)
theorem mN_mN {σ : qS} {q q' : Nat} {m m' : Int32} : mN (mN σ q m) q' m' = mN σ q' m' := by
  unfold mN
  rw [uI_sw (a := 151) (k := 2) (b := 151) (j := 6) (by decide), uI_uI, uI_uI]
theorem MX.mN {σ : qS} {n q : Nat} {B : Nat → Nat} {m : Int32} (h : MX σ n B) : MX (mN σ q m) n B := (h.uI (by decide)).uI (by decide)
theorem mN_rf {σ : qS} {p : Nat} (hp : σ.1 151 2 = nI p) : σ = mN σ p (σ.1 151 6) := by
  unfold mN
  rw [uI_eq rfl, uI_eq hp]
theorem m_numRun {en : pN} {d n : Nat} {B : Nat → Nat} {r : qR} : ∀ (k p c : Nat) (σ : qS), MX σ n B → σ.1 151 2 = nI p → p + k = n → c + k < 2 ^ 31 →
    L_X12_next_389 en (d + 1) (nI (c + (wnd dgt B k p - p))) (mN σ (wnd dgt B k p) (ncd B k p c (σ.1 151 6))) = some r → L_X12_next_314 en (d + 1) (nI c) σ = some r := by
  intro k
  induction k with
  | zero =>
    intro p c σ hT hp hk hc hr
    refine le_X12_next_314 en (d + 1) (nI c) σ r ?_
    rw [if_pos (by rw [hT.len, hp]; exact nI_le (by omega) (by have := hT.le; omega)), mN_rf hp]
    have : c + (wnd dgt B 0 p - p) = c := by show c + (p - p) = c; omega
    rw [this] at hr
    exact hr
  | succ k ih =>
    intro p c σ hT hp hk hc hr
    have hn := hT.le
    have hB := hT.byte p (by omega)
    have z2 : σ.1 152 p = nI (B p) := hT.text p (by omega)
    have hin : p_inB (nI p) 4000 = true := inB_nI (by omega) (by decide)
    have hcl : (nI p).toNatClampNeg = p := nI_clamp (by omega)
    refine le_X12_next_314 en (d + 1) (nI c) σ r ?_
    rw [if_neg (by rw [hT.len, hp]; exact nI_ge (by omega) (by omega)), hp, gd_true hin, hcl, z2, m_isFigure hB, bI_some]
    unfold wnd ncd at hr
    by_cases h2 : dgt (B p) = true
    · rw [if_neg (fun q => absurd (tI0.mp q) (by rw [h2]; decide))]
      rw [if_pos h2, if_pos h2] at hr
      have hge := wnd_ge (P := dgt) (B := B) k (p + 1)
      have go : ∀ m : Int32, L_X12_next_389 en (d + 1) (nI (c + (wnd dgt B k (p + 1) - p))) (mN σ (wnd dgt B k (p + 1)) (ncd B k (p + 1) (c + 1) m)) = some r → L_X12_next_370 en (d + 1) (nI c) m σ = some r := by
        intro m hm
        refine le_X12_next_370 en (d + 1) (nI c) m σ r ?_
        rw [nm_eq, nm_eq, show (uI σ 151 6 m).1 151 2 = nI p from hp, nI_1, nI_1]
        refine ih (p + 1) (c + 1) (mN σ (p + 1) m) hT.mN rfl (by omega) (by omega) ?_
        rw [mN_mN, show c + 1 + (wnd dgt B k (p + 1) - (p + 1)) = c + (wnd dgt B k (p + 1) - p) by omega]
        exact hm
      by_cases h3 : c < 3
      · rw [if_neg (show ¬ (3 : Int32) ≤ nI c from nI_ge (b := 3) h3 (by decide)), hp, gd_true hin, hcl, z2]
        rw [if_pos h3] at hr
        exact go _ hr
      · rw [if_pos (show (3 : Int32) ≤ nI c from nI_le (a := 3) (by omega) (by omega))]
        rw [if_neg h3] at hr
        exact go _ hr
    · have h2' : dgt (B p) = false := by revert h2; cases dgt (B p) <;> simp
      rw [if_pos (tI0.mpr h2')]
      rw [if_neg h2, if_neg h2, ← mN_rf hp, Nat.sub_self] at hr
      exact hr
theorem m_numEnd {en : pN} {d len : Nat} {σ : qS} (h : len < 2 ^ 31) : L_X12_next_389 en (d + 2) (nI len) σ = some (none, uI (ndS (decide (len ≤ 3)) 1 σ) 151 3 2) := by
  refine le_X12_next_389 en (d + 2) (nI len) σ _ ?_
  by_cases h8 : len ≤ 3
  · rw [if_neg (show ¬ (3 : Int32) < nI len from nI_nlt (a := 3) h8 (by decide)), decide_eq_true h8]
    refine le_X12_next_400 en (d + 2) 1 σ _ ?_
    rw [show (1 : Int32) = tI true from rfl, m_need, bV_some]
    rfl
  · rw [if_pos (show (3 : Int32) < nI len from nI_lt (a := 3) (by omega) h), decide_eq_false h8]
    refine le_X12_next_400 en (d + 2) 0 σ _ ?_
    rw [show (0 : Int32) = tI false from rfl, m_need, bV_some]
    rfl
/-- 0 behind the end, for the model -/
def byz (B : Nat → Nat) (n p : Nat) : Nat := if p < n then B p else 0
theorem m_byteAt {en : pN} {d n p : Nat} {B : Nat → Nat} {σ : qS} (hT : MX σ n B) (hp : p ≤ 4001) : qev en (d + 1) 248 [.ref 151, .int (nI p)] σ = some (some (.int (nI (byz B n p))), σ) := by
  refine le_X12_byteAt en d (nI p) σ _ ?_
  have hn := hT.le
  unfold byz
  by_cases h : p < n
  · rw [hT.len, if_neg (nI_ge h (by omega)), gd_true (inB_nI (by omega) (by decide)), nI_clamp (by omega), hT.text p h, if_pos h]
  · rw [hT.len, if_pos (nI_le (by omega) (by omega)), if_neg h]
    rfl
/-- behind a sign -/
def mG (σ : qS) (b p : Nat) (two : Bool) : qS := uI (uI (ndS (sgn b) 1 σ) 151 3 (nI (if two = true then b + 128 else b))) 151 2 (nI (if two = true then p + 2 else p + 1))
theorem ndS_at {ok : Bool} {w : Int32} {σ : qS} {a k : Nat} (h : ¬ (a = 151 ∧ (k = 7 ∨ k = 8))) : (ndS ok w σ).1 a k = σ.1 a k := by
  unfold ndS flS
  split
  · rfl
  · split
    · rw [g_I, if_neg (by omega), g_I, if_neg (by omega)]
    · rfl
theorem ndS_J {ok : Bool} {w : Int32} {σ : qS} : (ndS ok w σ).2 = σ.2 := by
  unfold ndS flS
  split
  · rfl
  · split <;> rfl
theorem m_sign5 {en : pN} {d p b : Nat} {two ok : Bool} {σ : qS} (h2 : σ.1 151 2 = nI p) (ho : ok = sgn b) : L_X12_next_559 en (d + 2) (nI b) (tI two) (tI ok) σ = some (none, mG σ b p two) := by
  subst ho
  refine le_X12_next_559 en (d + 2) (nI b) (tI two) (tI (sgn b)) σ _ ?_
  rw [m_need, bV_some]
  have hz : (ndS (sgn b) 1 σ).1 151 2 = nI p := (ndS_at (by omega)).trans h2
  have hy : ∀ v : Int32, (uI (ndS (sgn b) 1 σ) 151 3 v).1 151 2 = nI p := fun _ => hz
  unfold mG
  cases two with
  | false =>
    rw [if_pos (show tI false = 0 from rfl)]
    refine le_X12_next_583 en (d + 2) _ _ _ _ ?_
    rw [nm_eq, if_pos (show tI false = 0 from rfl), hy]
    refine le_X12_next_601 en (d + 2) _ _ _ _ ?_
    rw [nm_eq, nI_1]
    rfl
  | true =>
    rw [if_neg (show ¬ tI true = 0 by decide)]
    refine le_X12_next_583 en (d + 2) _ _ _ _ ?_
    rw [nm_eq, if_neg (show ¬ tI true = 0 by decide), hy]
    refine le_X12_next_601 en (d + 2) _ _ _ _ ?_
    rw [nm_eq, show nI p + (2 : Int32) = nI (p + 2) from nI_add p 2, show nI b + (128 : Int32) = nI (b + 128) from nI_add b 128]
    rfl
theorem m_sign4 {en : pN} {d p b : Nat} {two : Bool} {σ : qS} (hb : b < 256) (h2 : σ.1 151 2 = nI p) : L_X12_next_456 en (d + 2) (nI b) (tI two) σ = some (none, mG σ b p two) := by
  refine le_X12_next_456 en (d + 2) (nI b) (tI two) σ _ ?_
  have T : sgn b = true → L_X12_next_559 en (d + 2) (nI b) (tI two) 1 σ = some (none, mG σ b p two) := fun h => by
    have := m_sign5 (en := en) (d := d) (two := two) (ok := sgn b) h2 rfl
    rw [h] at this
    exact this
  have F : sgn b = false → L_X12_next_559 en (d + 2) (nI b) (tI two) 0 σ = some (none, mG σ b p two) := fun h => by
    have := m_sign5 (en := en) (d := d) (two := two) (ok := sgn b) h2 rfl
    rw [h] at this
    exact this
  have step : ∀ (c : Nat) (X : Option qR), c < 256 → sgn c = true → (b ≠ c → X = some (none, mG σ b p two)) → (if nI b = nI c then L_X12_next_559 en (d + 2) (nI b) (tI two) 1 σ else X) = some (none, mG σ b p two) := by
    intro c X hc hs hX
    by_cases q : b = c
    · rw [if_pos ((nI_is hb hc).mpr q)]
      exact T (by rw [q]; exact hs)
    · rw [if_neg (fun z => q ((nI_is hb hc).mp z))]
      exact hX q
  refine step 123 _ (by decide) (by decide) fun n1 => ?_
  refine step 125 _ (by decide) (by decide) fun n2 => ?_
  refine step 40 _ (by decide) (by decide) fun n3 => ?_
  refine step 41 _ (by decide) (by decide) fun n4 => ?_
  refine step 59 _ (by decide) (by decide) fun n5 => ?_
  refine step 44 _ (by decide) (by decide) fun n6 => ?_
  refine step 61 _ (by decide) (by decide) fun n7 => ?_
  refine step 43 _ (by decide) (by decide) fun n8 => ?_
  refine step 45 _ (by decide) (by decide) fun n9 => ?_
  refine step 42 _ (by decide) (by decide) fun n10 => ?_
  refine step 60 _ (by decide) (by decide) fun n11 => ?_
  refine step 62 _ (by decide) (by decide) fun n12 => ?_
  refine step 38 _ (by decide) (by decide) fun n13 => ?_
  refine step 124 _ (by decide) (by decide) fun n14 => ?_
  refine step 33 _ (by decide) (by decide) fun n15 => ?_
  by_cases q : b = 46
  · rw [if_neg (not_not_intro (show nI b = (46 : Int32) from (nI_is hb (c := 46) (by decide)).mpr q))]
    exact T (by rw [q]; decide)
  · rw [if_pos (show ¬ nI b = (46 : Int32) from fun z => q ((nI_is hb (c := 46) (by decide)).mp z))]
    refine F ?_
    unfold sgn
    simp only [List.contains_cons, List.contains_nil, Bool.or_false, Bool.or_eq_false_iff, beq_eq_false_iff_ne]
    exact ⟨n1, n2, n3, n4, n5, n6, n7, n8, n9, n10, n11, n12, n13, n14, n15, q⟩
/-- the token of the model that begins at p: the state behind it; place and kind are set ahead -/
def mTok (σ : qS) (B : Nat → Nat) (n p : Nat) : qS :=
  if n ≤ p then σ
  else if ltr (B p) = true then uI (ndS (decide (wnd wch B (n - p) p - p ≤ 8)) 1 (mW σ (wnd wch B (n - p) p) (wcd wch f8 B (n - p) p 0))) 151 3 1
  else if dgt (B p) = true then uI (ndS (decide (wnd dgt B (n - p) p - p ≤ 3)) 1 (mN σ (wnd dgt B (n - p) p) (ncd B (n - p) p 0 0))) 151 3 2
  else mG σ (B p) p (two_ (B p) && decide (byt B n (p + 1) = 61))
def nxS (σ : qS) (B : Nat → Nat) (n q : Nat) : qS := mTok (uI (uI (uI σ 151 2 (nI (skp B (n - q) false q))) 151 4 (nI (skp B (n - q) false q))) 151 3 0) B n (skp B (n - q) false q)
theorem m_next {en : pN} {d n q : Nat} {B : Nat → Nat} {σ : qS} (hT : MX σ n B) (h7 : σ.1 151 7 = 0) (h2 : σ.1 151 2 = nI q) (hq : q ≤ n) : qev en (d + 3) 249 [.ref 151] σ = some (none, nxS σ B n q) := by
  have hn := hT.le
  have hs := skp_ge (B := B) (n - q) false q
  refine le_X12_next en (d + 2) σ _ ?_
  rw [m_good, bI_some, decide_eq_true h7, if_pos (show ¬ tI true = 0 by decide)]
  refine (m_skip (n - q) q σ hT h2 (by omega)).1 ?_
  unfold nxS
  generalize skp B (n - q) false q = p at hs ⊢
  refine le_X12_next_136 en (d + 2) _ _ ?_
  have e1 : (uI σ 151 2 (nI p)).1 151 2 = nI p := rfl
  rw [nm_eq, nm_eq, e1]
  generalize hρ : uI (uI (uI σ 151 2 (nI p)) 151 4 (nI p)) 151 3 0 = ρ
  have hR : MX ρ n B := by rw [← hρ]; exact ((hT.uI (by decide)).uI (by decide)).uI (by decide)
  have r2 : ρ.1 151 2 = nI p := by rw [← hρ]; rfl
  unfold mTok
  by_cases hp : p < n
  · have hB := hT.byte p hp
    have z2 : ρ.1 152 p = nI (B p) := hR.text p hp
    have hin : p_inB (nI p) 4000 = true := inB_nI (by omega) (by decide)
    have hcl : (nI p).toNatClampNeg = p := nI_clamp (by omega)
    have hne : ¬ nI p = nI n := by rw [nI_eq (by omega) (by omega)]; omega
    rw [r2, hR.len, if_pos hne, gd_true hin, hcl, z2, nm_eq, m_isLetter hB, bI_some, if_neg (show ¬ n ≤ p by omega)]
    by_cases hl : ltr (B p) = true
    · rw [if_neg (fun q => absurd (tI0.mp q) (by rw [hl]; decide)), if_pos hl, nm_eq]
      have hw := wnd_ge (P := wch) (B := B) (n - p) p
      have hR' : MX (uJ ρ 151 5 0) n B := hR.uJ
      refine m_wordRun (d := d + 1) (n - p) p 0 (uJ ρ 151 5 0) hR' r2 (by omega) ?_
      rw [show (uJ ρ 151 5 0).2.1 151 5 = (0 : Int64) from rfl, Nat.zero_add]
      have e : ∀ (q : Nat) (m : Int64), mW (uJ ρ 151 5 0) q m = mW ρ q m := fun q m => by
        unfold mW
        rw [uJ_uJ]
      rw [e, m_wordEnd (by omega)]
    · have hl' : ltr (B p) = false := by revert hl; cases ltr (B p) <;> simp
      rw [if_pos (tI0.mpr hl'), if_neg hl, m_isFigure hB, bI_some]
      by_cases hd : dgt (B p) = true
      · rw [if_neg (fun q => absurd (tI0.mp q) (by rw [hd]; decide)), if_pos hd, nm_eq]
        have hw := wnd_ge (P := dgt) (B := B) (n - p) p
        refine m_numRun (d := d + 1) (n - p) p 0 (uI ρ 151 6 0) (hR.uI (by decide)) r2 (by omega) (by omega) ?_
        rw [show (uI ρ 151 6 0).1 151 6 = (0 : Int32) from rfl, Nat.zero_add]
        have e : ∀ (q : Nat) (m : Int32), mN (uI ρ 151 6 0) q m = mN ρ q m := fun q m => by
          unfold mN
          rw [uI_uI]
        rw [e, m_numEnd (by omega)]
      · have hd' : dgt (B p) = false := by revert hd; cases dgt (B p) <;> simp
        rw [if_pos (tI0.mpr hd'), if_neg hd]
        have Q : ∀ two : Bool, L_X12_next_456 en (d + 2) (nI (B p)) (tI two) ρ = some (none, mG ρ (B p) p two) := fun two => m_sign4 hB r2
        have hb : (nI (byz B n (p + 1)) = (61 : Int32)) ↔ byt B n (p + 1) = 61 := by
          unfold byt byz
          by_cases h : p + 1 < n
          · rw [if_pos h, if_pos h]
            exact nI_is (hT.byte (p + 1) h) (c := 61) (by decide)
          · rw [if_neg h, if_neg h]; decide
        have P : two_ (B p) = true → L_X12_next_436 en (d + 2) (nI (B p)) ρ = some (none, mG ρ (B p) p (two_ (B p) && decide (byt B n (p + 1) = 61))) := by
          intro h2
          refine le_X12_next_436 en (d + 2) (nI (B p)) ρ _ ?_
          rw [r2, nI_1, m_byteAt hR (by omega), bI_some, h2, Bool.true_and]
          by_cases h : byt B n (p + 1) = 61
          · rw [if_neg (not_not_intro (hb.mpr h)), decide_eq_true h]; exact Q true
          · rw [if_pos (fun z => h (hb.mp z)), decide_eq_false h]; exact Q false
        have ne : ∀ {c : Nat}, c < 256 → B p ≠ c → ¬ nI (B p) = nI c := fun hc z q => z ((nI_is hB hc).mp q)
        have tw : two_ (B p) = true ↔ B p = 61 ∨ B p = 33 ∨ B p = 60 ∨ B p = 62 := by
          unfold two_
          simp [List.contains_cons]
        by_cases z1 : B p = 61
        · rw [if_pos (show nI (B p) = (61 : Int32) by rw [z1]; rfl)]
          exact P (tw.mpr (Or.inl z1))
        · rw [if_neg (show ¬ nI (B p) = (61 : Int32) from ne (c := 61) (by decide) z1)]
          by_cases z2 : B p = 33
          · rw [if_pos (show nI (B p) = (33 : Int32) by rw [z2]; rfl)]
            exact P (tw.mpr (Or.inr (Or.inl z2)))
          · rw [if_neg (show ¬ nI (B p) = (33 : Int32) from ne (c := 33) (by decide) z2)]
            by_cases z3 : B p = 60
            · rw [if_pos (show nI (B p) = (60 : Int32) by rw [z3]; rfl)]
              exact P (tw.mpr (Or.inr (Or.inr (Or.inl z3))))
            · rw [if_neg (show ¬ nI (B p) = (60 : Int32) from ne (c := 60) (by decide) z3)]
              by_cases z4 : B p = 62
              · rw [if_neg (not_not_intro (show nI (B p) = (62 : Int32) by rw [z4]; rfl))]
                exact P (tw.mpr (Or.inr (Or.inr (Or.inr z4))))
              · rw [if_pos (show ¬ nI (B p) = (62 : Int32) from ne (c := 62) (by decide) z4)]
                have : two_ (B p) = false := by
                  cases h : two_ (B p) with
                  | false => rfl
                  | true => rcases tw.mp h with q | q | q | q <;> omega
                rw [this, Bool.false_and]
                exact Q false
  · have e : p = n := by omega
    rw [r2, hR.len, if_neg (not_not_intro (congrArg nI e)), if_pos (show n ≤ p by omega)]
theorem m_next0 {en : pN} {d : Nat} {σ : qS} (h7 : ¬ σ.1 151 7 = 0) : qev en (d + 2) 249 [.ref 151] σ = some (none, σ) := by
  refine le_X12_next en (d + 1) σ _ ?_
  rw [m_good, bI_some, decide_eq_false h7, if_neg (show ¬ ¬ tI false = 0 by decide)]
