/-! ALL TURNS, as both try them. -/
section FH
variable {t i n w a c l u ch nc nl nt k o j : Nat} {v x z : Int32} {N : fI} {P : Nat → fI}
theorem fh_setl (hl : P 10 i = -2 ∨ ∃ k, P 10 i = nI k ∧ k < 6) (ht : t < 4) (h : 233 ≤ j) : setl P N t i v j = N j := fr_setl2 hl ht (by omega)
theorem fh_gto (ht : t < 4) (h : 233 ≤ j) : gto N t x j = N j := fr_gto (by omega) (by omega)
theorem fh_lrn (ht : t < 4) (h : 233 ≤ j) : lrn N t v j = N j := pk_un (by omega)
theorem fh_vew (ht : t < 4) (h : 233 ≤ j) : vew N t c k j = N j := pk_un (by omega)
theorem fh_wr1 {tel : Bool} (ht : t < 4) (hc : c < 8) (ha : a < 9) (h : 233 ≤ j) : wr1 w N t c a v tel j = N j := by
  unfold wr1
  rw [pk_un (by omega), fh_vew ht h, pk_un (by omega), pk_un (by omega), pk_un (by omega)]
theorem fh_lok (ht : t < 4) (h : 233 ≤ j) : lok w P N t c ch j = N j := by
  unfold lok
  split
  · split
    · exact fh_lrn ht h
    · exact fh_vew ht h
  · rfl
theorem fh_lal (ht : t < 4) (h : 233 ≤ j) : lal w N t c j = N j := by
  unfold lal
  split
  · rw [fh_lrn ht h, fh_vew ht h]
  · rfl
theorem fh_wrt {tel : Bool} (ht : t < 4) (hc : c < 8) (ha : w = 2 → clp (N (72 + c)) < 9) (h : 233 ≤ j) : wrt w N t c v tel j = N j := by
  unfold wrt
  split
  · exact fh_wr1 ht hc (ha (by assumption)) h
  · exact pk_un (by omega)
theorem fh_sto (ht : t < 4) (hc : c < 8) (ha : w = 2 → clp (N (72 + c)) < 9) (hq : w = 1 → clp (N (56 + t)) < 3) (h : 233 ≤ j) : sto w P N t c v j = N j := by
  unfold sto
  split
  · rename_i q
    have := hq q.1
    rw [pk_un (by omega), pk_un (by omega)]
  · exact fh_wrt ht hc ha h
theorem fh_flu (ht : t < 4) (hc : c < 8) (h : 233 ≤ j) : flu N t c v j = N j := by
  unfold flu
  rw [pk_un (by omega), pk_un (by omega), pk_un (by omega), pk_un (by omega), pk_un (by omega)]
theorem fh_lev (hl : l < 4) (h : 233 ≤ j) : lev N t l j = N j := by
  unfold lev
  split
  · rw [pk_un (by omega), pk_un (by omega)]
  · exact pk_un (by omega)
theorem fh_wrg (ht : t < 4) (h : 233 ≤ j) : wrg N t v j = N j := by
  unfold wrg
  rw [pk_un (by omega), pk_un (by omega), pk_un (by omega)]
theorem lal_72 (hc : c < 8) (ht : t < 4) : lal w N t c (72 + c) = N (72 + c) := fr_lal (by omega)
/-- what lies behind a state's numbers stays -/
theorem fh_stp (hP : PV P nc nl nt n) (hS : SV P w nc nl nt n N) (hw2 : w ≤ 2) (hr : rdS P w N t ch nt) (hch : ch < 10) (h : 233 ≤ j) : stp P w N t ch nt j = N j := by
  have hP' := hP
  have hS' := hS
  obtain ⟨htn, hr⟩ := hr
  have hle := ch_le hP hS htn
  obtain ⟨⟨hc0, hc8⟩, ⟨hl0, hl4⟩, ⟨ht0, ht4⟩, ⟨hn0, hn100⟩, hln, hth⟩ := hP
  obtain ⟨St, Sl, Sk, Sc, Sq, Sw⟩ := hS
  have ht : t < 4 := by omega
  unfold stp
  by_cases h9 : ch = 9
  · rw [if_pos h9]
    have hq : ¬ N (56 + t) = 0 := by
      rcases hr with z | ⟨-, z⟩
      · omega
      · exact z
    obtain ⟨c, v, hc, hv, e⟩ := pq_two Sq hc8 ht (show 0 < 3 by decide)
    have e : N (60 + t * 3) = pkq v c := e
    rw [e, pkq_and hc, n_clp (by omega)]
    exact fh_flu ht hc h
  · rw [if_neg h9]
    have hr : ch < chs P w N t nt := hr.resolve_right (fun z => h9 z.1)
    by_cases s3 : N t = 3
    · rw [if_pos s3]
      obtain ⟨⟨i, hi, h4, h8, hk⟩, -⟩ := sv_wok (St.1 t htn) s3
      have ei : clp (N (4 + t)) = i := by rw [h4]; exact n_clp (by omega)
      obtain ⟨-, -, -, ho, -⟩ := hln i hi
      have ob4 := (ho (by omega) (by omega)).2
      rw [ei]
      unfold tkb
      rw [fh_gto ht h, fh_lrn ht h, pk_un (by omega), pk_un (by omega), pk_un (by omega)]
    · rw [if_neg s3]
      have s1 : N t = 1 := by
        unfold chs at hr
        rw [if_neg s3] at hr
        refine Classical.byContradiction fun q => ?_
        rw [if_neg q] at hr
        omega
      obtain ⟨⟨i, hi, h4, h8⟩, -⟩ := sv_run (St.1 t htn) s1
      have ei : clp (N (4 + t)) = i := by rw [h4]; exact n_clp (by omega)
      rw [ei]
      have hL := hln i hi
      have hl := ln_of hL (fun t ht => (hth t ht).2.2)
      obtain ⟨⟨hk, hk19⟩, -, ho1, ho2, ho3, -⟩ := hL
      have hrk : ch < chK P w N t nt i (ob P i) (kd P i) := by
        unfold chs at hr
        rw [if_neg s3, if_pos s1, ei] at hr
        exact hr
      -- the act
      have act : (actS w P N t ch nt i (ob P i) (kd P i)).2 j = N j := by
        unfold actS
        by_cases k4 : kd P i ≤ 4
        · rw [if_pos k4]
          unfold touS
          by_cases k1 : kd P i = 1
          · rw [if_pos k1]
            show lok w P (setl P N t i _) t (ob P i) ch j = _
            rw [fh_lok ht h, fh_setl hl ht h]
          · rw [if_neg k1]
            cases h5 : exv P 5 N i with
            | none => rfl
            | some v =>
              dsimp only
              by_cases k0 : kd P i = 0
              · rw [if_pos k0]; exact fh_setl hl ht h
              · rw [if_neg k0]
                obtain ⟨o1, o2⟩ := ho1 (by omega) k4
                have ro : roS P w N t i (ob P i) (kd P i) = true ∨ kd P i = 2 ∨ kd P i = 3 ∨ kd P i = 4 := Or.inr (by omega)
                have hro : roS P w N t i (ob P i) (kd P i) = true := by
                  unfold chK at hrk
                  split at hrk
                  · omega
                  · rw [if_pos (by omega)] at hrk
                    split at hrk
                    · assumption
                    · omega
                by_cases k2 : kd P i = 2
                · rw [if_pos k2]
                  refine fh_sto ht (by omega) (fun z => ?_) (fun z => ?_) h
                  · subst z; exact ro_2 hro (by omega)
                  · subst z; exact ro_1 hro
                · rw [if_neg k2]
                  by_cases k3 : kd P i = 3
                  · rw [if_pos k3]
                    cases h7 : exv P 7 N i with
                    | none => rfl
                    | some u =>
                      dsimp only
                      unfold swp
                      split
                      · rename_i hh
                        rw [fh_setl hl ht h, fh_wrt ht (by omega) (fun z => ?_) h, fh_lal ht h]
                        rw [lal_72 (by omega) ht]
                        subst z
                        refine Classical.byContradiction fun w9 => ?_
                        rw [k3] at hro
                        exact ro_3 hro w9 (by rw [h7]; exact fun z => by cases z) v h5 hh
                      · rw [fh_setl hl ht h, fh_lal ht h]
                  · rw [if_neg k3]
                    unfold add2
                    split
                    · rfl
                    · show setl P (wrt w (lal w N t (ob P i)) t (ob P i) _ true) t i _ j = _
                      rw [fh_setl hl ht h, fh_wrt ht (by omega) (fun z => ?_) h, fh_lal ht h]
                      rw [lal_72 (by omega) ht]
                      subst z
                      exact ro_2 hro (by omega)
        · rw [if_neg k4]
          by_cases k9 : kd P i ≤ 9
          · rw [if_pos k9]
            have ol := (ho2 (by omega) k9).2
            unfold lckS
            split
            · split
              · rfl
              · show lrn (upd (upd N (40 + ob P i) _) (44 + ob P i) _) t _ j = _
                rw [fh_lrn ht h, pk_un (by omega), pk_un (by omega)]
            · split
              · rfl
              · split
                · show lev (upd N (44 + ob P i) _) t (ob P i) j = _
                  rw [fh_lev (by omega) h, pk_un (by omega)]
                · split
                  · show lev (upd (upd (upd N (12 + t) _) (44 + ob P i) 0) t 2) t (ob P i) j = _
                    rw [fh_lev (by omega) h, pk_un (by omega), pk_un (by omega), pk_un (by omega)]
                  · exact wak_o _ _ (by omega)
          · rw [if_neg k9]
            by_cases k13 : kd P i ≤ 13
            · rw [if_pos k13]
              unfold metS
              split
              · rename_i k10
                have ot := (ho3 (Or.inl k10)).2
                split
                · rfl
                · show upd (gto N (ob P i) _) (224 + ob P i) _ j = _
                  rw [pk_un (by omega), fh_gto (by omega) h]
              · split
                · exact fh_lrn ht h
                · split
                  · show upd (lrn N t _) 232 _ j = _
                    rw [pk_un (by omega), fh_lrn ht h]
                  · rfl
            · rw [if_neg k13]
      unfold linS
      split
      · rw [fh_wrg ht h]; exact act
      · split
        · rw [fh_gto ht h]; exact act
        · exact act
end FH
/-- an exploration: how many states, the states, how each was found, which behind a while, how many steps, those, where each state's begin, the orders of locks seen -/
abbrev xT : Type := Nat × (Nat → fI) × (Nat → Nat × Nat) × (Nat → Bool) × Nat × (Nat → Nat × Nat) × (Nat → Nat) × (Nat → Nat → Bool)
abbrev xN (x : xT) : Nat := x.1
abbrev xS (x : xT) : Nat → fI := x.2.1
abbrev xF (x : xT) : Nat → Nat × Nat := x.2.2.1
abbrev xWh (x : xT) : Nat → Bool := x.2.2.2.1
abbrev xM (x : xT) : Nat := x.2.2.2.2.1
abbrev xE (x : xT) : Nat → Nat × Nat := x.2.2.2.2.2.1
abbrev xA (x : xT) : Nat → Nat := x.2.2.2.2.2.2.1
abbrev xO (x : xT) : Nat → Nat → Bool := x.2.2.2.2.2.2.2
def at1 {α : Type} (f : Nat → α) (k : Nat) (v : α) : Nat → α := fun i => if i = k then v else f i
theorem at1_s {α : Type} {f : Nat → α} {k : Nat} {v : α} : at1 f k v k = v := if_pos rfl
theorem at1_n {α : Type} {f : Nat → α} {k i : Nat} {v : α} (h : i ≠ k) : at1 f k v i = f i := if_neg h
/-- the first state like N -/
noncomputable def fndS (S : Nat → fI) (N : fI) : Nat → Nat → Option Nat
  | 0, _ => none
  | m + 1, i => @ite _ (eqS (S i) N) (Classical.propDecidable _) (some i) (fndS S N m (i + 1))
def isW (P : Nat → fI) (N : fI) (a : Nat) : Bool := decide (a % 10 ≠ 9) && decide (kd P (clp (N (4 + a / 10))) = 18)
/-- orders of locks that a step shows -/
def ordO (P : Nat → fI) (nl : Nat) (N : fI) (a : Nat) (O : Nat → Nat → Bool) : Nat → Nat → Bool := fun p q => O p q || (decide (a % 10 ≠ 9) && decide (laS P N (a / 10) = nI q) && decide (p < nl) && decide (p ≠ q) && decide (N (40 + p) = nI (a / 10)) && decide (¬ N (40 + q) = nI (a / 10)))
/-- a step tried -/
noncomputable def tryS (P : Nat → fI) (w nl nt lim k : Nat) (x : xT) (a : Nat) : Option xT :=
  if 200000 ≤ xM x then none
  else match fndS (xS x) (stp P w (xS x k) (a / 10) (a % 10) nt) (xN x) 0 with
    | some i => some (xN x, xS x, xF x, xWh x, xM x + 1, at1 (xE x) (xM x) (i, a), xA x, ordO P nl (xS x k) a (xO x))
    | none => if lim ≤ xN x then none else some (xN x + 1, at1 (xS x) (xN x) (stp P w (xS x k) (a / 10) (a % 10) nt), at1 (xF x) (xN x) (k, a), at1 (xWh x) (xN x) (isW P (xS x k) a), xM x + 1, at1 (xE x) (xM x) (xN x, a), xA x, ordO P nl (xS x k) a (xO x))
noncomputable def tryL (P : Nat → fI) (w nl nt lim k : Nat) (o : Option Nat) : List Nat → xT → Option xT
  | [], x => some x
  | a :: l, x => if o = none ∨ o = some a then (match tryS P w nl nt lim k x a with
    | none => none
    | some y => tryL P w nl nt lim k o l y) else tryL P w nl nt lim k o l x
/-- the only step tried with fewer turns -/
def qtF (P : Nat → fI) (N : fI) : Nat → Nat → Option Nat
  | 0, _ => none
  | m + 1, t => if N t = 1 ∧ (kd P (clp (N (4 + t))) = 0 ∨ (13 ≤ kd P (clp (N (4 + t))) ∧ kd P (clp (N (4 + t))) ≤ 17)) then some (10 * t) else qtF P N m (t + 1)
def onlS (P : Nat → fI) (nt : Nat) (fw : Bool) (x : xT) (k : Nat) : Option Nat := if fw = true ∧ xWh x k = false then qtF P (xS x k) nt 0 else none
def begK (x : xT) (k : Nat) : xT := (xN x, xS x, xF x, xWh x, xM x, xE x, at1 (xA x) k (xM x), xO x)
noncomputable def runK (P : Nat → fI) (w nl nt lim : Nat) (fw : Bool) (x : xT) (k : Nat) : Option xT := tryL P w nl nt lim k (onlS P nt fw x k) (rdl P w (xS x k) nt nt) (begK x k)
noncomputable def exK (P : Nat → fI) (w nl nt lim : Nat) (fw : Bool) : Nat → Nat → xT → Option xT
  | 0, _, x => some x
  | m + 1, k, x => if k < xN x then (match runK P w nl nt lim fw x k with
    | none => none
    | some y => exK P w nl nt lim fw m (k + 1) y) else some x
def limS (w : Nat) : Nat := if w = 2 then 6000 else 20000
def beg0 (N : fI) : xT := (1, fun _ => N, fun _ => (0, 0), fun _ => false, 0, fun _ => (0, 0), fun _ => 0, fun _ _ => false)
/-- all turns -/
noncomputable def expl (P : Nat → fI) (w nc nl nt : Nat) (fw : Bool) : Option xT := match exK P w nl nt (limS w) fw 20000 0 (beg0 (fst0 P w nc nt (fun _ => 0))) with
  | none => none
  | some x => some (begK x (xN x))

